theorem d86_0 : decode cX6_thrown 0 = .ok (.aload_n 0, 1) := by decide +kernel
theorem z86_0 {st : List Value} {w : pm_H}  {x0 : Nat} : pm_ev 86 0 [some (.ref x0)] st w = pm_ev 86 1 [some (.ref x0)] (.ref x0 :: st) w := pm_ny pt_86 d86_0 rfl rfl rfl
theorem d86_1 : decode cX6_thrown 1 = .ok (.getfield 1, 3) := by decide +kernel
theorem z86_1 {st : List Value} {w : pm_H} {pl : pm_L} {x0 : Nat} : pm_ev 86 1 pl (.ref x0 :: st) w = pm_kv 86 4 pl st w (pm_gf (w x0) 6 0) := pm_ng pt_86 pt_F_6_1 d86_1
theorem d86_4 : decode cX6_thrown 4 = .ok (.ireturn, 1) := by decide +kernel
theorem z86_4 {w : pm_H} {pl : pm_L} {x0 : Int32} : pm_ev 86 4 pl [.int x0] w = some (some (.int x0), w) := pm_nr pt_86 d86_4 rfl
theorem d87_0 : decode cX6_feed 0 = .ok (.aload_n 0, 1) := by decide +kernel
theorem z87_0 {st : List Value} {w : pm_H} {b1 b2 b3 b4 b5 : Option Value} {x0 : Nat} : pm_ev 87 0 [some (.ref x0), b1, b2, b3, b4, b5] st w = pm_ev 87 1 [some (.ref x0), b1, b2, b3, b4, b5] (.ref x0 :: st) w := pm_ny pt_87 d87_0 rfl rfl rfl
theorem d87_1 : decode cX6_feed 1 = .ok (.iconst 0, 1) := by decide +kernel
theorem z87_1 {st : List Value} {w : pm_H} {pl : pm_L} : pm_ev 87 1 pl st w = pm_ev 87 2 pl (.int 0 :: st) w := pm_ny pt_87 d87_1 rfl rfl rfl
theorem d87_2 : decode cX6_feed 2 = .ok (.putfield 1, 3) := by decide +kernel
theorem z87_2 {st : List Value} {w : pm_H} {pl : pm_L} {x0 : Nat} {x1 : Int32} : pm_ev 87 2 pl (.int x1 :: .ref x0 :: st) w = pm_kw 87 5 pl st (pm_pf w x0 (w x0) 6 0 0 (.int x1)) := pm_np pt_87 pt_F_6_1 d87_2
theorem d87_5 : decode cX6_feed 5 = .ok (.aload_n 0, 1) := by decide +kernel
theorem z87_5 {st : List Value} {w : pm_H} {b1 b2 b3 b4 b5 : Option Value} {x0 : Nat} : pm_ev 87 5 [some (.ref x0), b1, b2, b3, b4, b5] st w = pm_ev 87 6 [some (.ref x0), b1, b2, b3, b4, b5] (.ref x0 :: st) w := pm_ny pt_87 d87_5 rfl rfl rfl
theorem d87_6 : decode cX6_feed 6 = .ok (.getfield 11, 3) := by decide +kernel
theorem z87_6 {st : List Value} {w : pm_H} {pl : pm_L} {x0 : Nat} : pm_ev 87 6 pl (.ref x0 :: st) w = pm_kv 87 9 pl st w (pm_gf (w x0) 6 2) := pm_ng pt_87 pt_F_6_11 d87_6
theorem d87_9 : decode cX6_feed 9 = .ok (.bipush 20, 2) := by decide +kernel
theorem z87_9 {st : List Value} {w : pm_H} {pl : pm_L} : pm_ev 87 9 pl st w = pm_ev 87 11 pl (.int 20 :: st) w := pm_ny pt_87 d87_9 rfl rfl rfl
theorem d87_11 : decode cX6_feed 11 = .ok (.iadd, 1) := by decide +kernel
theorem z87_11 {st : List Value} {w : pm_H} {pl : pm_L} {x0 x1 : Int32} : pm_ev 87 11 pl (.int x1 :: .int x0 :: st) w = pm_ev 87 12 pl (.int (x0 + x1) :: st) w := pm_ny pt_87 d87_11 rfl rfl rfl
theorem d87_12 : decode cX6_feed 12 = .ok (.sipush 740, 3) := by decide +kernel
theorem z87_12 {st : List Value} {w : pm_H} {pl : pm_L} : pm_ev 87 12 pl st w = pm_ev 87 15 pl (.int 740 :: st) w := pm_ny pt_87 d87_12 rfl rfl rfl
theorem d87_15 : decode cX6_feed 15 = .ok (.if_icmp .le 5, 3) := by decide +kernel
theorem z87_15 {st : List Value} {w : pm_H} {pl : pm_L} {x0 x1 : Int32} : pm_ev 87 15 pl (.int x1 :: .int x0 :: st) w = if x1 < x0 then pm_ev 87 18 pl st w else pm_ev 87 20 pl st w := pm_nin (c := x0 ≤ x1) pt_87 d87_15 rfl rfl rfl pm_ge
theorem d87_18 : decode cX6_feed 18 = .ok (.iconst (-1), 1) := by decide +kernel
theorem z87_18 {st : List Value} {w : pm_H} {pl : pm_L} : pm_ev 87 18 pl st w = pm_ev 87 19 pl (.int (-1) :: st) w := pm_ny pt_87 d87_18 rfl rfl rfl
theorem d87_19 : decode cX6_feed 19 = .ok (.ireturn, 1) := by decide +kernel
theorem z87_19 {w : pm_H} {pl : pm_L} {x0 : Int32} : pm_ev 87 19 pl [.int x0] w = some (some (.int x0), w) := pm_nr pt_87 d87_19 rfl
theorem d87_20 : decode cX6_feed 20 = .ok (.aload_n 0, 1) := by decide +kernel
theorem z87_20 {st : List Value} {w : pm_H} {b1 b2 b3 b4 b5 : Option Value} {x0 : Nat} : pm_ev 87 20 [some (.ref x0), b1, b2, b3, b4, b5] st w = pm_ev 87 21 [some (.ref x0), b1, b2, b3, b4, b5] (.ref x0 :: st) w := pm_ny pt_87 d87_20 rfl rfl rfl
theorem d87_21 : decode cX6_feed 21 = .ok (.iload_n 1, 1) := by decide +kernel
theorem z87_21 {st : List Value} {w : pm_H} {b0 b2 b3 b4 b5 : Option Value} {x0 : Int32} : pm_ev 87 21 [b0, some (.int x0), b2, b3, b4, b5] st w = pm_ev 87 22 [b0, some (.int x0), b2, b3, b4, b5] (.int x0 :: st) w := pm_ny pt_87 d87_21 rfl rfl rfl
theorem d87_22 : decode cX6_feed 22 = .ok (.invokevirtual 14, 3) := by decide +kernel
theorem z87_22 {w : pm_H} {b0 b1 b2 b3 b4 b5 : Option Value} {x0 : Int32} {x1 : Nat} : pm_ev 87 22 [b0, b1, b2, b3, b4, b5] [.int x0, .ref x1] w = pm_k 87 25 [b0, b1, b2, b3, b4, b5] [] (pm_vc (w x1) 6 (pm_call 88 [.ref x1, .int x0] w)) := pm_nv pt_87 pt_88 pt_M_6_14 d87_22 ⟨rfl, rfl⟩ ⟨⟨rfl, Nat.le_of_ble_eq_true rfl, Nat.le_of_ble_eq_true rfl, Nat.le_of_ble_eq_true rfl, Nat.le_of_ble_eq_true rfl⟩, rfl⟩
theorem d87_25 : decode cX6_feed 25 = .ok (.aload_n 0, 1) := by decide +kernel
theorem z87_25 {st : List Value} {w : pm_H} {b1 b2 b3 b4 b5 : Option Value} {x0 : Nat} : pm_ev 87 25 [some (.ref x0), b1, b2, b3, b4, b5] st w = pm_ev 87 26 [some (.ref x0), b1, b2, b3, b4, b5] (.ref x0 :: st) w := pm_ny pt_87 d87_25 rfl rfl rfl
theorem d87_26 : decode cX6_feed 26 = .ok (.iload_n 2, 1) := by decide +kernel
theorem z87_26 {st : List Value} {w : pm_H} {b0 b1 b3 b4 b5 : Option Value} {x0 : Int32} : pm_ev 87 26 [b0, b1, some (.int x0), b3, b4, b5] st w = pm_ev 87 27 [b0, b1, some (.int x0), b3, b4, b5] (.int x0 :: st) w := pm_ny pt_87 d87_26 rfl rfl rfl
theorem d87_27 : decode cX6_feed 27 = .ok (.invokevirtual 14, 3) := by decide +kernel
theorem z87_27 {w : pm_H} {b0 b1 b2 b3 b4 b5 : Option Value} {x0 : Int32} {x1 : Nat} : pm_ev 87 27 [b0, b1, b2, b3, b4, b5] [.int x0, .ref x1] w = pm_k 87 30 [b0, b1, b2, b3, b4, b5] [] (pm_vc (w x1) 6 (pm_call 88 [.ref x1, .int x0] w)) := pm_nv pt_87 pt_88 pt_M_6_14 d87_27 ⟨rfl, rfl⟩ ⟨⟨rfl, Nat.le_of_ble_eq_true rfl, Nat.le_of_ble_eq_true rfl, Nat.le_of_ble_eq_true rfl, Nat.le_of_ble_eq_true rfl⟩, rfl⟩
theorem d87_30 : decode cX6_feed 30 = .ok (.aload_n 0, 1) := by decide +kernel
theorem z87_30 {st : List Value} {w : pm_H} {b1 b2 b3 b4 b5 : Option Value} {x0 : Nat} : pm_ev 87 30 [some (.ref x0), b1, b2, b3, b4, b5] st w = pm_ev 87 31 [some (.ref x0), b1, b2, b3, b4, b5] (.ref x0 :: st) w := pm_ny pt_87 d87_30 rfl rfl rfl
theorem d87_31 : decode cX6_feed 31 = .ok (.iload_n 3, 1) := by decide +kernel
theorem z87_31 {st : List Value} {w : pm_H} {b0 b1 b2 b4 b5 : Option Value} {x0 : Int32} : pm_ev 87 31 [b0, b1, b2, some (.int x0), b4, b5] st w = pm_ev 87 32 [b0, b1, b2, some (.int x0), b4, b5] (.int x0 :: st) w := pm_ny pt_87 d87_31 rfl rfl rfl
theorem d87_32 : decode cX6_feed 32 = .ok (.invokevirtual 14, 3) := by decide +kernel
theorem z87_32 {w : pm_H} {b0 b1 b2 b3 b4 b5 : Option Value} {x0 : Int32} {x1 : Nat} : pm_ev 87 32 [b0, b1, b2, b3, b4, b5] [.int x0, .ref x1] w = pm_k 87 35 [b0, b1, b2, b3, b4, b5] [] (pm_vc (w x1) 6 (pm_call 88 [.ref x1, .int x0] w)) := pm_nv pt_87 pt_88 pt_M_6_14 d87_32 ⟨rfl, rfl⟩ ⟨⟨rfl, Nat.le_of_ble_eq_true rfl, Nat.le_of_ble_eq_true rfl, Nat.le_of_ble_eq_true rfl, Nat.le_of_ble_eq_true rfl⟩, rfl⟩
theorem d87_35 : decode cX6_feed 35 = .ok (.aload_n 0, 1) := by decide +kernel
theorem z87_35 {st : List Value} {w : pm_H} {b1 b2 b3 b4 b5 : Option Value} {x0 : Nat} : pm_ev 87 35 [some (.ref x0), b1, b2, b3, b4, b5] st w = pm_ev 87 36 [some (.ref x0), b1, b2, b3, b4, b5] (.ref x0 :: st) w := pm_ny pt_87 d87_35 rfl rfl rfl
theorem d87_36 : decode cX6_feed 36 = .ok (.iload 4, 2) := by decide +kernel
theorem z87_36 {st : List Value} {w : pm_H} {b0 b1 b2 b3 b5 : Option Value} {x0 : Int32} : pm_ev 87 36 [b0, b1, b2, b3, some (.int x0), b5] st w = pm_ev 87 38 [b0, b1, b2, b3, some (.int x0), b5] (.int x0 :: st) w := pm_ny pt_87 d87_36 rfl rfl rfl
theorem d87_38 : decode cX6_feed 38 = .ok (.invokevirtual 14, 3) := by decide +kernel
theorem z87_38 {w : pm_H} {b0 b1 b2 b3 b4 b5 : Option Value} {x0 : Int32} {x1 : Nat} : pm_ev 87 38 [b0, b1, b2, b3, b4, b5] [.int x0, .ref x1] w = pm_k 87 41 [b0, b1, b2, b3, b4, b5] [] (pm_vc (w x1) 6 (pm_call 88 [.ref x1, .int x0] w)) := pm_nv pt_87 pt_88 pt_M_6_14 d87_38 ⟨rfl, rfl⟩ ⟨⟨rfl, Nat.le_of_ble_eq_true rfl, Nat.le_of_ble_eq_true rfl, Nat.le_of_ble_eq_true rfl, Nat.le_of_ble_eq_true rfl⟩, rfl⟩
theorem d87_41 : decode cX6_feed 41 = .ok (.aload_n 0, 1) := by decide +kernel
theorem z87_41 {st : List Value} {w : pm_H} {b1 b2 b3 b4 b5 : Option Value} {x0 : Nat} : pm_ev 87 41 [some (.ref x0), b1, b2, b3, b4, b5] st w = pm_ev 87 42 [some (.ref x0), b1, b2, b3, b4, b5] (.ref x0 :: st) w := pm_ny pt_87 d87_41 rfl rfl rfl
theorem d87_42 : decode cX6_feed 42 = .ok (.iload 5, 2) := by decide +kernel
theorem z87_42 {st : List Value} {w : pm_H} {b0 b1 b2 b3 b4 : Option Value} {x0 : Int32} : pm_ev 87 42 [b0, b1, b2, b3, b4, some (.int x0)] st w = pm_ev 87 44 [b0, b1, b2, b3, b4, some (.int x0)] (.int x0 :: st) w := pm_ny pt_87 d87_42 rfl rfl rfl
theorem d87_44 : decode cX6_feed 44 = .ok (.invokevirtual 14, 3) := by decide +kernel
theorem z87_44 {w : pm_H} {b0 b1 b2 b3 b4 b5 : Option Value} {x0 : Int32} {x1 : Nat} : pm_ev 87 44 [b0, b1, b2, b3, b4, b5] [.int x0, .ref x1] w = pm_k 87 47 [b0, b1, b2, b3, b4, b5] [] (pm_vc (w x1) 6 (pm_call 88 [.ref x1, .int x0] w)) := pm_nv pt_87 pt_88 pt_M_6_14 d87_44 ⟨rfl, rfl⟩ ⟨⟨rfl, Nat.le_of_ble_eq_true rfl, Nat.le_of_ble_eq_true rfl, Nat.le_of_ble_eq_true rfl, Nat.le_of_ble_eq_true rfl⟩, rfl⟩
theorem d87_47 : decode cX6_feed 47 = .ok (.aload_n 0, 1) := by decide +kernel
theorem z87_47 {st : List Value} {w : pm_H} {b1 b2 b3 b4 b5 : Option Value} {x0 : Nat} : pm_ev 87 47 [some (.ref x0), b1, b2, b3, b4, b5] st w = pm_ev 87 48 [some (.ref x0), b1, b2, b3, b4, b5] (.ref x0 :: st) w := pm_ny pt_87 d87_47 rfl rfl rfl
theorem d87_48 : decode cX6_feed 48 = .ok (.getfield 11, 3) := by decide +kernel
theorem z87_48 {st : List Value} {w : pm_H} {pl : pm_L} {x0 : Nat} : pm_ev 87 48 pl (.ref x0 :: st) w = pm_kv 87 51 pl st w (pm_gf (w x0) 6 2) := pm_ng pt_87 pt_F_6_11 d87_48
theorem d87_51 : decode cX6_feed 51 = .ok (.ireturn, 1) := by decide +kernel
theorem z87_51 {w : pm_H} {pl : pm_L} {x0 : Int32} : pm_ev 87 51 pl [.int x0] w = some (some (.int x0), w) := pm_nr pt_87 d87_51 rfl
theorem d88_0 : decode cX6_lays 0 = .ok (.bipush 24, 2) := by decide +kernel
theorem z88_0 {st : List Value} {w : pm_H} {pl : pm_L} : pm_ev 88 0 pl st w = pm_ev 88 2 pl (.int 24 :: st) w := pm_ny pt_88 d88_0 rfl rfl rfl
theorem d88_2 : decode cX6_lays 2 = .ok (.istore_n 2, 1) := by decide +kernel
theorem z88_2 {st : List Value} {w : pm_H} {b0 b2 : Option Value} {x0 : Int32} {x9 : Int32} : pm_ev 88 2 [b0, some (.int x9), b2] (.int x0 :: st) w = pm_ev 88 3 [b0, some (.int x9), some (.int x0)] st w := pm_ny pt_88 d88_2 rfl rfl rfl
theorem d88_3 : decode cX6_lays 3 = .ok (.iload_n 2, 1) := by decide +kernel
theorem z88_3 {st : List Value} {w : pm_H} {b0 b1 : Option Value} {x0 : Int32} : pm_ev 88 3 [b0, b1, some (.int x0)] st w = pm_ev 88 4 [b0, b1, some (.int x0)] (.int x0 :: st) w := pm_ny pt_88 d88_3 rfl rfl rfl
theorem d88_4 : decode cX6_lays 4 = .ok (.ifCond .lt 35, 3) := by decide +kernel
theorem z88_4 {st : List Value} {w : pm_H} {pl : pm_L} {x0 : Int32} : pm_ev 88 4 pl (.int x0 :: st) w = if x0 < 0 then pm_ev 88 39 pl st w else pm_ev 88 7 pl st w := pm_nif pt_88 d88_4 rfl rfl rfl
theorem d88_7 : decode cX6_lays 7 = .ok (.aload_n 0, 1) := by decide +kernel
theorem z88_7 {st : List Value} {w : pm_H} {b1 b2 : Option Value} {x0 : Nat} : pm_ev 88 7 [some (.ref x0), b1, b2] st w = pm_ev 88 8 [some (.ref x0), b1, b2] (.ref x0 :: st) w := pm_ny pt_88 d88_7 rfl rfl rfl
theorem d88_8 : decode cX6_lays 8 = .ok (.getfield 7, 3) := by decide +kernel
theorem z88_8 {st : List Value} {w : pm_H} {pl : pm_L} {x0 : Nat} : pm_ev 88 8 pl (.ref x0 :: st) w = pm_kv 88 11 pl st w (pm_gf (w x0) 6 1) := pm_ng pt_88 pt_F_6_7 d88_8
theorem d88_11 : decode cX6_lays 11 = .ok (.aload_n 0, 1) := by decide +kernel
theorem z88_11 {st : List Value} {w : pm_H} {b1 b2 : Option Value} {x0 : Nat} : pm_ev 88 11 [some (.ref x0), b1, b2] st w = pm_ev 88 12 [some (.ref x0), b1, b2] (.ref x0 :: st) w := pm_ny pt_88 d88_11 rfl rfl rfl
theorem d88_12 : decode cX6_lays 12 = .ok (.getfield 11, 3) := by decide +kernel
theorem z88_12 {st : List Value} {w : pm_H} {pl : pm_L} {x0 : Nat} : pm_ev 88 12 pl (.ref x0 :: st) w = pm_kv 88 15 pl st w (pm_gf (w x0) 6 2) := pm_ng pt_88 pt_F_6_11 d88_12
theorem d88_15 : decode cX6_lays 15 = .ok (.iload_n 1, 1) := by decide +kernel
theorem z88_15 {st : List Value} {w : pm_H} {b0 b2 : Option Value} {x0 : Int32} : pm_ev 88 15 [b0, some (.int x0), b2] st w = pm_ev 88 16 [b0, some (.int x0), b2] (.int x0 :: st) w := pm_ny pt_88 d88_15 rfl rfl rfl
theorem d88_16 : decode cX6_lays 16 = .ok (.iload_n 2, 1) := by decide +kernel
theorem z88_16 {st : List Value} {w : pm_H} {b0 b1 : Option Value} {x0 : Int32} : pm_ev 88 16 [b0, b1, some (.int x0)] st w = pm_ev 88 17 [b0, b1, some (.int x0)] (.int x0 :: st) w := pm_ny pt_88 d88_16 rfl rfl rfl
theorem d88_17 : decode cX6_lays 17 = .ok (.iushr, 1) := by decide +kernel
theorem z88_17 {st : List Value} {w : pm_H} {pl : pm_L} {x0 x1 : Int32} : pm_ev 88 17 pl (.int x1 :: .int x0 :: st) w = pm_ev 88 18 pl (.int (x0.toUInt32 >>> (x1.toUInt32 &&& Int32.toUInt32 31)).toInt32 :: st) w := pm_ny pt_88 d88_17 rfl rfl rfl
theorem d88_18 : decode cX6_lays 18 = .ok (.sipush 255, 3) := by decide +kernel
theorem z88_18 {st : List Value} {w : pm_H} {pl : pm_L} : pm_ev 88 18 pl st w = pm_ev 88 21 pl (.int 255 :: st) w := pm_ny pt_88 d88_18 rfl rfl rfl
theorem d88_21 : decode cX6_lays 21 = .ok (.iand, 1) := by decide +kernel
theorem z88_21 {st : List Value} {w : pm_H} {pl : pm_L} {x0 x1 : Int32} : pm_ev 88 21 pl (.int x1 :: .int x0 :: st) w = pm_ev 88 22 pl (.int (x0 &&& x1) :: st) w := pm_ny pt_88 d88_21 rfl rfl rfl
theorem d88_22 : decode cX6_lays 22 = .ok (.iastore, 1) := by decide +kernel
theorem z88_22 {st : List Value} {w : pm_H} {pl : pm_L} {x0 : Nat} {x1 : Int32} {x2 : Int32} : pm_ev 88 22 pl (.int x2 :: .int x1 :: .ref x0 :: st) w = pm_kw 88 23 pl st (pm_is w x0 (w x0) x1 x2) := pm_nis pt_88 d88_22
theorem d88_23 : decode cX6_lays 23 = .ok (.aload_n 0, 1) := by decide +kernel
theorem z88_23 {st : List Value} {w : pm_H} {b1 b2 : Option Value} {x0 : Nat} : pm_ev 88 23 [some (.ref x0), b1, b2] st w = pm_ev 88 24 [some (.ref x0), b1, b2] (.ref x0 :: st) w := pm_ny pt_88 d88_23 rfl rfl rfl
theorem d88_24 : decode cX6_lays 24 = .ok (.dup, 1) := by decide +kernel
theorem z88_24 {st : List Value} {w : pm_H} {pl : pm_L} {x0 : Nat} : pm_ev 88 24 pl (.ref x0 :: st) w = pm_ev 88 25 pl (.ref x0 :: .ref x0 :: st) w := pm_ny pt_88 d88_24 rfl rfl rfl
theorem d88_25 : decode cX6_lays 25 = .ok (.getfield 11, 3) := by decide +kernel
theorem z88_25 {st : List Value} {w : pm_H} {pl : pm_L} {x0 : Nat} : pm_ev 88 25 pl (.ref x0 :: st) w = pm_kv 88 28 pl st w (pm_gf (w x0) 6 2) := pm_ng pt_88 pt_F_6_11 d88_25
theorem d88_28 : decode cX6_lays 28 = .ok (.iconst 1, 1) := by decide +kernel
theorem z88_28 {st : List Value} {w : pm_H} {pl : pm_L} : pm_ev 88 28 pl st w = pm_ev 88 29 pl (.int 1 :: st) w := pm_ny pt_88 d88_28 rfl rfl rfl
theorem d88_29 : decode cX6_lays 29 = .ok (.iadd, 1) := by decide +kernel
theorem z88_29 {st : List Value} {w : pm_H} {pl : pm_L} {x0 x1 : Int32} : pm_ev 88 29 pl (.int x1 :: .int x0 :: st) w = pm_ev 88 30 pl (.int (x0 + x1) :: st) w := pm_ny pt_88 d88_29 rfl rfl rfl
theorem d88_30 : decode cX6_lays 30 = .ok (.putfield 11, 3) := by decide +kernel
theorem z88_30 {st : List Value} {w : pm_H} {pl : pm_L} {x0 : Nat} {x1 : Int32} : pm_ev 88 30 pl (.int x1 :: .ref x0 :: st) w = pm_kw 88 33 pl st (pm_pf w x0 (w x0) 6 2 0 (.int x1)) := pm_np pt_88 pt_F_6_11 d88_30
theorem d88_33 : decode cX6_lays 33 = .ok (.iinc 2 (-8), 3) := by decide +kernel
theorem z88_33 {st : List Value} {w : pm_H} {b0 : Option Value} {x0 : Int32} {x9 : Int32} : pm_ev 88 33 [b0, some (.int x9), some (.int x0)] st w = pm_ev 88 36 [b0, some (.int x9), some (.int (x0 + (-8)))] st w := pm_ny pt_88 d88_33 rfl rfl rfl
theorem d88_36 : decode cX6_lays 36 = .ok (.goto (-33), 3) := by decide +kernel
theorem z88_36 {st : List Value} {w : pm_H} {pl : pm_L} : pm_ev 88 36 pl st w = pm_ev 88 3 pl st w := pm_ny pt_88 d88_36 rfl rfl rfl
theorem d88_39 : decode cX6_lays 39 = .ok (.return_, 1) := by decide +kernel
theorem z88_39 {w : pm_H} {pl : pm_L} : pm_ev 88 39 pl [] w = some (none, w) := pm_nr pt_88 d88_39 rfl
theorem d89_0 : decode cX6_end 0 = .ok (.aload_n 0, 1) := by decide +kernel
theorem z89_0 {st : List Value} {w : pm_H} {b1 : Option Value} {x0 : Nat} : pm_ev 89 0 [some (.ref x0), b1] st w = pm_ev 89 1 [some (.ref x0), b1] (.ref x0 :: st) w := pm_ny pt_89 d89_0 rfl rfl rfl
theorem d89_1 : decode cX6_end 1 = .ok (.iconst 0, 1) := by decide +kernel
theorem z89_1 {st : List Value} {w : pm_H} {pl : pm_L} : pm_ev 89 1 pl st w = pm_ev 89 2 pl (.int 0 :: st) w := pm_ny pt_89 d89_1 rfl rfl rfl
theorem d89_2 : decode cX6_end 2 = .ok (.putfield 1, 3) := by decide +kernel
theorem z89_2 {st : List Value} {w : pm_H} {pl : pm_L} {x0 : Nat} {x1 : Int32} : pm_ev 89 2 pl (.int x1 :: .ref x0 :: st) w = pm_kw 89 5 pl st (pm_pf w x0 (w x0) 6 0 0 (.int x1)) := pm_np pt_89 pt_F_6_1 d89_2
theorem d89_5 : decode cX6_end 5 = .ok (.iload_n 1, 1) := by decide +kernel
theorem z89_5 {st : List Value} {w : pm_H} {b0 : Option Value} {x0 : Int32} : pm_ev 89 5 [b0, some (.int x0)] st w = pm_ev 89 6 [b0, some (.int x0)] (.int x0 :: st) w := pm_ny pt_89 d89_5 rfl rfl rfl
theorem d89_6 : decode cX6_end 6 = .ok (.ifCond .lt 11, 3) := by decide +kernel
theorem z89_6 {st : List Value} {w : pm_H} {pl : pm_L} {x0 : Int32} : pm_ev 89 6 pl (.int x0 :: st) w = if x0 < 0 then pm_ev 89 17 pl st w else pm_ev 89 9 pl st w := pm_nif pt_89 d89_6 rfl rfl rfl
theorem d89_9 : decode cX6_end 9 = .ok (.iload_n 1, 1) := by decide +kernel
theorem z89_9 {st : List Value} {w : pm_H} {b0 : Option Value} {x0 : Int32} : pm_ev 89 9 [b0, some (.int x0)] st w = pm_ev 89 10 [b0, some (.int x0)] (.int x0 :: st) w := pm_ny pt_89 d89_9 rfl rfl rfl
theorem d89_10 : decode cX6_end 10 = .ok (.aload_n 0, 1) := by decide +kernel
theorem z89_10 {st : List Value} {w : pm_H} {b1 : Option Value} {x0 : Nat} : pm_ev 89 10 [some (.ref x0), b1] st w = pm_ev 89 11 [some (.ref x0), b1] (.ref x0 :: st) w := pm_ny pt_89 d89_10 rfl rfl rfl
theorem d89_11 : decode cX6_end 11 = .ok (.getfield 11, 3) := by decide +kernel
theorem z89_11 {st : List Value} {w : pm_H} {pl : pm_L} {x0 : Nat} : pm_ev 89 11 pl (.ref x0 :: st) w = pm_kv 89 14 pl st w (pm_gf (w x0) 6 2) := pm_ng pt_89 pt_F_6_11 d89_11
theorem d89_14 : decode cX6_end 14 = .ok (.if_icmp .le 5, 3) := by decide +kernel
theorem z89_14 {st : List Value} {w : pm_H} {pl : pm_L} {x0 x1 : Int32} : pm_ev 89 14 pl (.int x1 :: .int x0 :: st) w = if x1 < x0 then pm_ev 89 17 pl st w else pm_ev 89 19 pl st w := pm_nin (c := x0 ≤ x1) pt_89 d89_14 rfl rfl rfl pm_ge
theorem d89_17 : decode cX6_end 17 = .ok (.iconst 0, 1) := by decide +kernel
theorem z89_17 {st : List Value} {w : pm_H} {pl : pm_L} : pm_ev 89 17 pl st w = pm_ev 89 18 pl (.int 0 :: st) w := pm_ny pt_89 d89_17 rfl rfl rfl
theorem d89_18 : decode cX6_end 18 = .ok (.ireturn, 1) := by decide +kernel
theorem z89_18 {w : pm_H} {pl : pm_L} {x0 : Int32} : pm_ev 89 18 pl [.int x0] w = pm_zr x0 w := pm_nz pt_89 d89_18
theorem d89_19 : decode cX6_end 19 = .ok (.aload_n 0, 1) := by decide +kernel
theorem z89_19 {st : List Value} {w : pm_H} {b1 : Option Value} {x0 : Nat} : pm_ev 89 19 [some (.ref x0), b1] st w = pm_ev 89 20 [some (.ref x0), b1] (.ref x0 :: st) w := pm_ny pt_89 d89_19 rfl rfl rfl
theorem d89_20 : decode cX6_end 20 = .ok (.iload_n 1, 1) := by decide +kernel
theorem z89_20 {st : List Value} {w : pm_H} {b0 : Option Value} {x0 : Int32} : pm_ev 89 20 [b0, some (.int x0)] st w = pm_ev 89 21 [b0, some (.int x0)] (.int x0 :: st) w := pm_ny pt_89 d89_20 rfl rfl rfl
theorem d89_21 : decode cX6_end 21 = .ok (.putfield 11, 3) := by decide +kernel
theorem z89_21 {st : List Value} {w : pm_H} {pl : pm_L} {x0 : Nat} {x1 : Int32} : pm_ev 89 21 pl (.int x1 :: .ref x0 :: st) w = pm_kw 89 24 pl st (pm_pf w x0 (w x0) 6 2 0 (.int x1)) := pm_np pt_89 pt_F_6_11 d89_21
theorem d89_24 : decode cX6_end 24 = .ok (.iconst 1, 1) := by decide +kernel
theorem z89_24 {st : List Value} {w : pm_H} {pl : pm_L} : pm_ev 89 24 pl st w = pm_ev 89 25 pl (.int 1 :: st) w := pm_ny pt_89 d89_24 rfl rfl rfl
theorem d89_25 : decode cX6_end 25 = .ok (.ireturn, 1) := by decide +kernel
theorem z89_25 {w : pm_H} {pl : pm_L} {x0 : Int32} : pm_ev 89 25 pl [.int x0] w = pm_zr x0 w := pm_nz pt_89 d89_25
theorem d90_0 : decode cX6_clears 0 = .ok (.iconst 0, 1) := by decide +kernel
theorem z90_0 {st : List Value} {w : pm_H} {pl : pm_L} : pm_ev 90 0 pl st w = pm_ev 90 1 pl (.int 0 :: st) w := pm_ny pt_90 d90_0 rfl rfl rfl
theorem d90_1 : decode cX6_clears 1 = .ok (.istore_n 1, 1) := by decide +kernel
theorem z90_1 {st : List Value} {w : pm_H} {b1 : Option Value} {x0 : Int32} {x9 : Nat} : pm_ev 90 1 [some (.ref x9), b1] (.int x0 :: st) w = pm_ev 90 2 [some (.ref x9), some (.int x0)] st w := pm_ny pt_90 d90_1 rfl rfl rfl
theorem d90_2 : decode cX6_clears 2 = .ok (.iload_n 1, 1) := by decide +kernel
theorem z90_2 {st : List Value} {w : pm_H} {b0 : Option Value} {x0 : Int32} : pm_ev 90 2 [b0, some (.int x0)] st w = pm_ev 90 3 [b0, some (.int x0)] (.int x0 :: st) w := pm_ny pt_90 d90_2 rfl rfl rfl
theorem d90_3 : decode cX6_clears 3 = .ok (.bipush 103, 2) := by decide +kernel
theorem z90_3 {st : List Value} {w : pm_H} {pl : pm_L} : pm_ev 90 3 pl st w = pm_ev 90 5 pl (.int 103 :: st) w := pm_ny pt_90 d90_3 rfl rfl rfl
theorem d90_5 : decode cX6_clears 5 = .ok (.if_icmp .ge 13, 3) := by decide +kernel
theorem z90_5 {st : List Value} {w : pm_H} {pl : pm_L} {x0 x1 : Int32} : pm_ev 90 5 pl (.int x1 :: .int x0 :: st) w = if x0 < x1 then pm_ev 90 8 pl st w else pm_ev 90 18 pl st w := pm_nin (c := x1 ≤ x0) pt_90 d90_5 rfl rfl rfl pm_ge
theorem d90_8 : decode cX6_clears 8 = .ok (.aload_n 0, 1) := by decide +kernel
theorem z90_8 {st : List Value} {w : pm_H} {b1 : Option Value} {x0 : Nat} : pm_ev 90 8 [some (.ref x0), b1] st w = pm_ev 90 9 [some (.ref x0), b1] (.ref x0 :: st) w := pm_ny pt_90 d90_8 rfl rfl rfl
theorem d90_9 : decode cX6_clears 9 = .ok (.iload_n 1, 1) := by decide +kernel
theorem z90_9 {st : List Value} {w : pm_H} {b0 : Option Value} {x0 : Int32} : pm_ev 90 9 [b0, some (.int x0)] st w = pm_ev 90 10 [b0, some (.int x0)] (.int x0 :: st) w := pm_ny pt_90 d90_9 rfl rfl rfl
theorem d90_10 : decode cX6_clears 10 = .ok (.iconst 0, 1) := by decide +kernel
theorem z90_10 {st : List Value} {w : pm_H} {pl : pm_L} : pm_ev 90 10 pl st w = pm_ev 90 11 pl (.int 0 :: st) w := pm_ny pt_90 d90_10 rfl rfl rfl
theorem d90_11 : decode cX6_clears 11 = .ok (.iastore, 1) := by decide +kernel
theorem z90_11 {st : List Value} {w : pm_H} {pl : pm_L} {x0 : Nat} {x1 : Int32} {x2 : Int32} : pm_ev 90 11 pl (.int x2 :: .int x1 :: .ref x0 :: st) w = pm_kw 90 12 pl st (pm_is w x0 (w x0) x1 x2) := pm_nis pt_90 d90_11
theorem d90_12 : decode cX6_clears 12 = .ok (.iinc 1 1, 3) := by decide +kernel
theorem z90_12 {st : List Value} {w : pm_H}  {x0 : Int32} {x9 : Nat} : pm_ev 90 12 [some (.ref x9), some (.int x0)] st w = pm_ev 90 15 [some (.ref x9), some (.int (x0 + 1))] st w := pm_ny pt_90 d90_12 rfl rfl rfl
theorem d90_15 : decode cX6_clears 15 = .ok (.goto (-13), 3) := by decide +kernel
theorem z90_15 {st : List Value} {w : pm_H} {pl : pm_L} : pm_ev 90 15 pl st w = pm_ev 90 2 pl st w := pm_ny pt_90 d90_15 rfl rfl rfl
theorem d90_18 : decode cX6_clears 18 = .ok (.aload_n 0, 1) := by decide +kernel
theorem z90_18 {st : List Value} {w : pm_H} {b1 : Option Value} {x0 : Nat} : pm_ev 90 18 [some (.ref x0), b1] st w = pm_ev 90 19 [some (.ref x0), b1] (.ref x0 :: st) w := pm_ny pt_90 d90_18 rfl rfl rfl
theorem d90_19 : decode cX6_clears 19 = .ok (.iconst 0, 1) := by decide +kernel
theorem z90_19 {st : List Value} {w : pm_H} {pl : pm_L} : pm_ev 90 19 pl st w = pm_ev 90 20 pl (.int 0 :: st) w := pm_ny pt_90 d90_19 rfl rfl rfl
theorem d90_20 : decode cX6_clears 20 = .ok (.iconst 1, 1) := by decide +kernel
theorem z90_20 {st : List Value} {w : pm_H} {pl : pm_L} : pm_ev 90 20 pl st w = pm_ev 90 21 pl (.int 1 :: st) w := pm_ny pt_90 d90_20 rfl rfl rfl
theorem d90_21 : decode cX6_clears 21 = .ok (.iastore, 1) := by decide +kernel
theorem z90_21 {st : List Value} {w : pm_H} {pl : pm_L} {x0 : Nat} {x1 : Int32} {x2 : Int32} : pm_ev 90 21 pl (.int x2 :: .int x1 :: .ref x0 :: st) w = pm_kw 90 22 pl st (pm_is w x0 (w x0) x1 x2) := pm_nis pt_90 d90_21
theorem d90_22 : decode cX6_clears 22 = .ok (.iconst 0, 1) := by decide +kernel
theorem z90_22 {st : List Value} {w : pm_H} {pl : pm_L} : pm_ev 90 22 pl st w = pm_ev 90 23 pl (.int 0 :: st) w := pm_ny pt_90 d90_22 rfl rfl rfl
theorem d90_23 : decode cX6_clears 23 = .ok (.istore_n 1, 1) := by decide +kernel
theorem z90_23 {st : List Value} {w : pm_H} {b1 : Option Value} {x0 : Int32} {x9 : Nat} : pm_ev 90 23 [some (.ref x9), b1] (.int x0 :: st) w = pm_ev 90 24 [some (.ref x9), some (.int x0)] st w := pm_ny pt_90 d90_23 rfl rfl rfl
theorem d90_24 : decode cX6_clears 24 = .ok (.iload_n 1, 1) := by decide +kernel
theorem z90_24 {st : List Value} {w : pm_H} {b0 : Option Value} {x0 : Int32} : pm_ev 90 24 [b0, some (.int x0)] st w = pm_ev 90 25 [b0, some (.int x0)] (.int x0 :: st) w := pm_ny pt_90 d90_24 rfl rfl rfl
theorem d90_25 : decode cX6_clears 25 = .ok (.iconst 4, 1) := by decide +kernel
theorem z90_25 {st : List Value} {w : pm_H} {pl : pm_L} : pm_ev 90 25 pl st w = pm_ev 90 26 pl (.int 4 :: st) w := pm_ny pt_90 d90_25 rfl rfl rfl
theorem d90_26 : decode cX6_clears 26 = .ok (.if_icmp .ge 19, 3) := by decide +kernel
theorem z90_26 {st : List Value} {w : pm_H} {pl : pm_L} {x0 x1 : Int32} : pm_ev 90 26 pl (.int x1 :: .int x0 :: st) w = if x0 < x1 then pm_ev 90 29 pl st w else pm_ev 90 45 pl st w := pm_nin (c := x1 ≤ x0) pt_90 d90_26 rfl rfl rfl pm_ge
theorem d90_29 : decode cX6_clears 29 = .ok (.aload_n 0, 1) := by decide +kernel
theorem z90_29 {st : List Value} {w : pm_H} {b1 : Option Value} {x0 : Nat} : pm_ev 90 29 [some (.ref x0), b1] st w = pm_ev 90 30 [some (.ref x0), b1] (.ref x0 :: st) w := pm_ny pt_90 d90_29 rfl rfl rfl
theorem d90_30 : decode cX6_clears 30 = .ok (.iconst 1, 1) := by decide +kernel
theorem z90_30 {st : List Value} {w : pm_H} {pl : pm_L} : pm_ev 90 30 pl st w = pm_ev 90 31 pl (.int 1 :: st) w := pm_ny pt_90 d90_30 rfl rfl rfl
theorem d90_31 : decode cX6_clears 31 = .ok (.iconst 2, 1) := by decide +kernel
theorem z90_31 {st : List Value} {w : pm_H} {pl : pm_L} : pm_ev 90 31 pl st w = pm_ev 90 32 pl (.int 2 :: st) w := pm_ny pt_90 d90_31 rfl rfl rfl
theorem d90_32 : decode cX6_clears 32 = .ok (.iload_n 1, 1) := by decide +kernel
theorem z90_32 {st : List Value} {w : pm_H} {b0 : Option Value} {x0 : Int32} : pm_ev 90 32 [b0, some (.int x0)] st w = pm_ev 90 33 [b0, some (.int x0)] (.int x0 :: st) w := pm_ny pt_90 d90_32 rfl rfl rfl
theorem d90_33 : decode cX6_clears 33 = .ok (.imul, 1) := by decide +kernel
theorem z90_33 {st : List Value} {w : pm_H} {pl : pm_L} {x0 x1 : Int32} : pm_ev 90 33 pl (.int x1 :: .int x0 :: st) w = pm_ev 90 34 pl (.int (x0 * x1) :: st) w := pm_ny pt_90 d90_33 rfl rfl rfl
theorem d90_34 : decode cX6_clears 34 = .ok (.iadd, 1) := by decide +kernel
theorem z90_34 {st : List Value} {w : pm_H} {pl : pm_L} {x0 x1 : Int32} : pm_ev 90 34 pl (.int x1 :: .int x0 :: st) w = pm_ev 90 35 pl (.int (x0 + x1) :: st) w := pm_ny pt_90 d90_34 rfl rfl rfl
theorem d90_35 : decode cX6_clears 35 = .ok (.iconst 1, 1) := by decide +kernel
theorem z90_35 {st : List Value} {w : pm_H} {pl : pm_L} : pm_ev 90 35 pl st w = pm_ev 90 36 pl (.int 1 :: st) w := pm_ny pt_90 d90_35 rfl rfl rfl
theorem d90_36 : decode cX6_clears 36 = .ok (.iadd, 1) := by decide +kernel
theorem z90_36 {st : List Value} {w : pm_H} {pl : pm_L} {x0 x1 : Int32} : pm_ev 90 36 pl (.int x1 :: .int x0 :: st) w = pm_ev 90 37 pl (.int (x0 + x1) :: st) w := pm_ny pt_90 d90_36 rfl rfl rfl
theorem d90_37 : decode cX6_clears 37 = .ok (.iconst 1, 1) := by decide +kernel
theorem z90_37 {st : List Value} {w : pm_H} {pl : pm_L} : pm_ev 90 37 pl st w = pm_ev 90 38 pl (.int 1 :: st) w := pm_ny pt_90 d90_37 rfl rfl rfl
theorem d90_38 : decode cX6_clears 38 = .ok (.iastore, 1) := by decide +kernel
theorem z90_38 {st : List Value} {w : pm_H} {pl : pm_L} {x0 : Nat} {x1 : Int32} {x2 : Int32} : pm_ev 90 38 pl (.int x2 :: .int x1 :: .ref x0 :: st) w = pm_kw 90 39 pl st (pm_is w x0 (w x0) x1 x2) := pm_nis pt_90 d90_38
theorem d90_39 : decode cX6_clears 39 = .ok (.iinc 1 1, 3) := by decide +kernel
theorem z90_39 {st : List Value} {w : pm_H}  {x0 : Int32} {x9 : Nat} : pm_ev 90 39 [some (.ref x9), some (.int x0)] st w = pm_ev 90 42 [some (.ref x9), some (.int (x0 + 1))] st w := pm_ny pt_90 d90_39 rfl rfl rfl
theorem d90_42 : decode cX6_clears 42 = .ok (.goto (-18), 3) := by decide +kernel
theorem z90_42 {st : List Value} {w : pm_H} {pl : pm_L} : pm_ev 90 42 pl st w = pm_ev 90 24 pl st w := pm_ny pt_90 d90_42 rfl rfl rfl
theorem d90_45 : decode cX6_clears 45 = .ok (.return_, 1) := by decide +kernel
theorem z90_45 {w : pm_H} {pl : pm_L} : pm_ev 90 45 pl [] w = some (none, w) := pm_nr pt_90 d90_45 rfl
theorem d91_0 : decode cX6_text 0 = .ok (.aload_n 0, 1) := by decide +kernel
theorem z91_0 {st : List Value} {w : pm_H} {b1 b2 : Option Value} {x0 : Nat} : pm_ev 91 0 [some (.ref x0), b1, b2] st w = pm_ev 91 1 [some (.ref x0), b1, b2] (.ref x0 :: st) w := pm_ny pt_91 d91_0 rfl rfl rfl
theorem d91_1 : decode cX6_text 1 = .ok (.iconst 0, 1) := by decide +kernel
theorem z91_1 {st : List Value} {w : pm_H} {pl : pm_L} : pm_ev 91 1 pl st w = pm_ev 91 2 pl (.int 0 :: st) w := pm_ny pt_91 d91_1 rfl rfl rfl
theorem d91_2 : decode cX6_text 2 = .ok (.putfield 1, 3) := by decide +kernel
theorem z91_2 {st : List Value} {w : pm_H} {pl : pm_L} {x0 : Nat} {x1 : Int32} : pm_ev 91 2 pl (.int x1 :: .ref x0 :: st) w = pm_kw 91 5 pl st (pm_pf w x0 (w x0) 6 0 0 (.int x1)) := pm_np pt_91 pt_F_6_1 d91_2
theorem d91_5 : decode cX6_text 5 = .ok (.aload_n 0, 1) := by decide +kernel
theorem z91_5 {st : List Value} {w : pm_H} {b1 b2 : Option Value} {x0 : Nat} : pm_ev 91 5 [some (.ref x0), b1, b2] st w = pm_ev 91 6 [some (.ref x0), b1, b2] (.ref x0 :: st) w := pm_ny pt_91 d91_5 rfl rfl rfl
theorem d91_6 : decode cX6_text 6 = .ok (.aload_n 0, 1) := by decide +kernel
theorem z91_6 {st : List Value} {w : pm_H} {b1 b2 : Option Value} {x0 : Nat} : pm_ev 91 6 [some (.ref x0), b1, b2] st w = pm_ev 91 7 [some (.ref x0), b1, b2] (.ref x0 :: st) w := pm_ny pt_91 d91_6 rfl rfl rfl
theorem d91_7 : decode cX6_text 7 = .ok (.getfield 11, 3) := by decide +kernel
theorem z91_7 {st : List Value} {w : pm_H} {pl : pm_L} {x0 : Nat} : pm_ev 91 7 pl (.ref x0 :: st) w = pm_kv 91 10 pl st w (pm_gf (w x0) 6 2) := pm_ng pt_91 pt_F_6_11 d91_7
theorem d91_10 : decode cX6_text 10 = .ok (.putfield 18, 3) := by decide +kernel
theorem z91_10 {st : List Value} {w : pm_H} {pl : pm_L} {x0 : Nat} {x1 : Int32} : pm_ev 91 10 pl (.int x1 :: .ref x0 :: st) w = pm_kw 91 13 pl st (pm_pf w x0 (w x0) 6 3 0 (.int x1)) := pm_np pt_91 pt_F_6_18 d91_10
theorem d91_13 : decode cX6_text 13 = .ok (.aload_n 0, 1) := by decide +kernel
theorem z91_13 {st : List Value} {w : pm_H} {b1 b2 : Option Value} {x0 : Nat} : pm_ev 91 13 [some (.ref x0), b1, b2] st w = pm_ev 91 14 [some (.ref x0), b1, b2] (.ref x0 :: st) w := pm_ny pt_91 d91_13 rfl rfl rfl
theorem d91_14 : decode cX6_text 14 = .ok (.iconst 0, 1) := by decide +kernel
theorem z91_14 {st : List Value} {w : pm_H} {pl : pm_L} : pm_ev 91 14 pl st w = pm_ev 91 15 pl (.int 0 :: st) w := pm_ny pt_91 d91_14 rfl rfl rfl
theorem d91_15 : decode cX6_text 15 = .ok (.putfield 11, 3) := by decide +kernel
theorem z91_15 {st : List Value} {w : pm_H} {pl : pm_L} {x0 : Nat} {x1 : Int32} : pm_ev 91 15 pl (.int x1 :: .ref x0 :: st) w = pm_kw 91 18 pl st (pm_pf w x0 (w x0) 6 2 0 (.int x1)) := pm_np pt_91 pt_F_6_11 d91_15
theorem d91_18 : decode cX6_text 18 = .ok (.aload_n 0, 1) := by decide +kernel
theorem z91_18 {st : List Value} {w : pm_H} {b1 b2 : Option Value} {x0 : Nat} : pm_ev 91 18 [some (.ref x0), b1, b2] st w = pm_ev 91 19 [some (.ref x0), b1, b2] (.ref x0 :: st) w := pm_ny pt_91 d91_18 rfl rfl rfl
theorem d91_19 : decode cX6_text 19 = .ok (.iconst 0, 1) := by decide +kernel
theorem z91_19 {st : List Value} {w : pm_H} {pl : pm_L} : pm_ev 91 19 pl st w = pm_ev 91 20 pl (.int 0 :: st) w := pm_ny pt_91 d91_19 rfl rfl rfl
theorem d91_20 : decode cX6_text 20 = .ok (.putfield 72, 3) := by decide +kernel
theorem z91_20 {st : List Value} {w : pm_H} {pl : pm_L} {x0 : Nat} {x1 : Int32} : pm_ev 91 20 pl (.int x1 :: .ref x0 :: st) w = pm_kw 91 23 pl st (pm_pf w x0 (w x0) 6 8 0 (.int x1)) := pm_np pt_91 pt_F_6_72 d91_20
theorem d91_23 : decode cX6_text 23 = .ok (.aload_n 0, 1) := by decide +kernel
theorem z91_23 {st : List Value} {w : pm_H} {b1 b2 : Option Value} {x0 : Nat} : pm_ev 91 23 [some (.ref x0), b1, b2] st w = pm_ev 91 24 [some (.ref x0), b1, b2] (.ref x0 :: st) w := pm_ny pt_91 d91_23 rfl rfl rfl
theorem d91_24 : decode cX6_text 24 = .ok (.iconst 0, 1) := by decide +kernel
theorem z91_24 {st : List Value} {w : pm_H} {pl : pm_L} : pm_ev 91 24 pl st w = pm_ev 91 25 pl (.int 0 :: st) w := pm_ny pt_91 d91_24 rfl rfl rfl
theorem d91_25 : decode cX6_text 25 = .ok (.putfield 21, 3) := by decide +kernel
theorem z91_25 {st : List Value} {w : pm_H} {pl : pm_L} {x0 : Nat} {x1 : Int32} : pm_ev 91 25 pl (.int x1 :: .ref x0 :: st) w = pm_kw 91 28 pl st (pm_pf w x0 (w x0) 6 4 0 (.int x1)) := pm_np pt_91 pt_F_6_21 d91_25
theorem d91_28 : decode cX6_text 28 = .ok (.iconst 0, 1) := by decide +kernel
theorem z91_28 {st : List Value} {w : pm_H} {pl : pm_L} : pm_ev 91 28 pl st w = pm_ev 91 29 pl (.int 0 :: st) w := pm_ny pt_91 d91_28 rfl rfl rfl
theorem d91_29 : decode cX6_text 29 = .ok (.istore_n 1, 1) := by decide +kernel
theorem z91_29 {st : List Value} {w : pm_H} {b1 b2 : Option Value} {x0 : Int32} {x9 : Nat} : pm_ev 91 29 [some (.ref x9), b1, b2] (.int x0 :: st) w = pm_ev 91 30 [some (.ref x9), some (.int x0), b2] st w := pm_ny pt_91 d91_29 rfl rfl rfl
theorem d91_30 : decode cX6_text 30 = .ok (.aload_n 0, 1) := by decide +kernel
theorem z91_30 {st : List Value} {w : pm_H} {b1 b2 : Option Value} {x0 : Nat} : pm_ev 91 30 [some (.ref x0), b1, b2] st w = pm_ev 91 31 [some (.ref x0), b1, b2] (.ref x0 :: st) w := pm_ny pt_91 d91_30 rfl rfl rfl
theorem d91_31 : decode cX6_text 31 = .ok (.getfield 87, 3) := by decide +kernel
theorem z91_31 {st : List Value} {w : pm_H} {pl : pm_L} {x0 : Nat} : pm_ev 91 31 pl (.ref x0 :: st) w = pm_kv 91 34 pl st w (pm_gf (w x0) 6 12) := pm_ng pt_91 pt_F_6_87 d91_31
theorem d91_34 : decode cX6_text 34 = .ok (.invokestatic 103, 3) := by decide +kernel
theorem z91_34 {w : pm_H} {b0 b1 b2 : Option Value} {x0 : Nat} : pm_ev 91 34 [b0, b1, b2] [.ref x0] w = pm_k 91 37 [b0, b1, b2] [] (pm_call 90 [.ref x0] w) := pm_ns pt_91 pt_90 pt_M_6_103 (Or.inl rfl) d91_34 ⟨rfl, rfl⟩ ⟨⟨rfl, Nat.le_of_ble_eq_true rfl, Nat.le_of_ble_eq_true rfl, Nat.le_of_ble_eq_true rfl, Nat.le_of_ble_eq_true rfl⟩, rfl⟩
theorem d91_37 : decode cX6_text 37 = .ok (.aload_n 0, 1) := by decide +kernel
theorem z91_37 {st : List Value} {w : pm_H} {b1 b2 : Option Value} {x0 : Nat} : pm_ev 91 37 [some (.ref x0), b1, b2] st w = pm_ev 91 38 [some (.ref x0), b1, b2] (.ref x0 :: st) w := pm_ny pt_91 d91_37 rfl rfl rfl
theorem d91_38 : decode cX6_text 38 = .ok (.invokevirtual 114, 3) := by decide +kernel
theorem z91_38 {w : pm_H} {b0 b1 b2 : Option Value} {x0 : Nat} : pm_ev 91 38 [b0, b1, b2] [.ref x0] w = pm_k 91 41 [b0, b1, b2] [] (pm_vc (w x0) 6 (pm_call 92 [.ref x0] w)) := pm_nv pt_91 pt_92 pt_M_6_114 d91_38 ⟨rfl, rfl⟩ ⟨⟨rfl, Nat.le_of_ble_eq_true rfl, Nat.le_of_ble_eq_true rfl, Nat.le_of_ble_eq_true rfl, Nat.le_of_ble_eq_true rfl⟩, rfl⟩
theorem d91_41 : decode cX6_text 41 = .ok (.aload_n 0, 1) := by decide +kernel
theorem z91_41 {st : List Value} {w : pm_H} {b1 b2 : Option Value} {x0 : Nat} : pm_ev 91 41 [some (.ref x0), b1, b2] st w = pm_ev 91 42 [some (.ref x0), b1, b2] (.ref x0 :: st) w := pm_ny pt_91 d91_41 rfl rfl rfl
theorem d91_42 : decode cX6_text 42 = .ok (.getfield 27, 3) := by decide +kernel
theorem z91_42 {st : List Value} {w : pm_H} {pl : pm_L} {x0 : Nat} : pm_ev 91 42 pl (.ref x0 :: st) w = pm_kv 91 45 pl st w (pm_gf (w x0) 6 6) := pm_ng pt_91 pt_F_6_27 d91_42
theorem d91_45 : decode cX6_text 45 = .ok (.ifCond .ne 12, 3) := by decide +kernel
theorem z91_45 {st : List Value} {w : pm_H} {pl : pm_L} {x0 : Int32} : pm_ev 91 45 pl (.int x0 :: st) w = if x0 = 0 then pm_ev 91 48 pl st w else pm_ev 91 57 pl st w := pm_nin (c := ¬ x0 = 0) pt_91 d91_45 rfl rfl rfl Iff.rfl
theorem d91_48 : decode cX6_text 48 = .ok (.iload_n 1, 1) := by decide +kernel
theorem z91_48 {st : List Value} {w : pm_H} {b0 b2 : Option Value} {x0 : Int32} : pm_ev 91 48 [b0, some (.int x0), b2] st w = pm_ev 91 49 [b0, some (.int x0), b2] (.int x0 :: st) w := pm_ny pt_91 d91_48 rfl rfl rfl
theorem d91_49 : decode cX6_text 49 = .ok (.iconst 1, 1) := by decide +kernel
theorem z91_49 {st : List Value} {w : pm_H} {pl : pm_L} : pm_ev 91 49 pl st w = pm_ev 91 50 pl (.int 1 :: st) w := pm_ny pt_91 d91_49 rfl rfl rfl
theorem d91_50 : decode cX6_text 50 = .ok (.iconst 4, 1) := by decide +kernel
theorem z91_50 {st : List Value} {w : pm_H} {pl : pm_L} : pm_ev 91 50 pl st w = pm_ev 91 51 pl (.int 4 :: st) w := pm_ny pt_91 d91_50 rfl rfl rfl
theorem d91_51 : decode cX6_text 51 = .ok (.invokestatic 110, 3) := by decide +kernel
theorem z91_51 {w : pm_H} {b0 b1 b2 : Option Value} {x0 : Int32} {x1 : Int32} {x2 : Int32} : pm_ev 91 51 [b0, b1, b2] [.int x0, .int x1, .int x2] w = pm_k 91 54 [b0, b1, b2] [] (pm_call 96 [.int x2, .int x1, .int x0] w) := pm_ns pt_91 pt_96 pt_M_6_110 (Or.inl rfl) d91_51 ⟨rfl, rfl⟩ ⟨⟨rfl, Nat.le_of_ble_eq_true rfl, Nat.le_of_ble_eq_true rfl, Nat.le_of_ble_eq_true rfl, Nat.le_of_ble_eq_true rfl⟩, rfl⟩
theorem d91_54 : decode cX6_text 54 = .ok (.ifCond .eq 31, 3) := by decide +kernel
theorem z91_54 {st : List Value} {w : pm_H} {pl : pm_L} {x0 : Int32} : pm_ev 91 54 pl (.int x0 :: st) w = if x0 = 0 then pm_ev 91 85 pl st w else pm_ev 91 57 pl st w := pm_nif pt_91 d91_54 rfl rfl rfl
theorem d91_57 : decode cX6_text 57 = .ok (.aload_n 0, 1) := by decide +kernel
theorem z91_57 {st : List Value} {w : pm_H} {b1 b2 : Option Value} {x0 : Nat} : pm_ev 91 57 [some (.ref x0), b1, b2] st w = pm_ev 91 58 [some (.ref x0), b1, b2] (.ref x0 :: st) w := pm_ny pt_91 d91_57 rfl rfl rfl
theorem d91_58 : decode cX6_text 58 = .ok (.iload_n 1, 1) := by decide +kernel
theorem z91_58 {st : List Value} {w : pm_H} {b0 b2 : Option Value} {x0 : Int32} : pm_ev 91 58 [b0, some (.int x0), b2] st w = pm_ev 91 59 [b0, some (.int x0), b2] (.int x0 :: st) w := pm_ny pt_91 d91_58 rfl rfl rfl
theorem d91_59 : decode cX6_text 59 = .ok (.invokevirtual 166, 3) := by decide +kernel
theorem z91_59 {w : pm_H} {b0 b1 b2 : Option Value} {x0 : Int32} {x1 : Nat} : pm_ev 91 59 [b0, b1, b2] [.int x0, .ref x1] w = pm_k 91 62 [b0, b1, b2] [] (pm_vc (w x1) 6 (pm_call 97 [.ref x1, .int x0] w)) := pm_nv pt_91 pt_97 pt_M_6_166 d91_59 ⟨rfl, rfl⟩ ⟨⟨rfl, Nat.le_of_ble_eq_true rfl, Nat.le_of_ble_eq_true rfl, Nat.le_of_ble_eq_true rfl, Nat.le_of_ble_eq_true rfl⟩, rfl⟩
theorem d91_62 : decode cX6_text 62 = .ok (.ifCond .eq 10, 3) := by decide +kernel
theorem z91_62 {st : List Value} {w : pm_H} {pl : pm_L} {x0 : Int32} : pm_ev 91 62 pl (.int x0 :: st) w = if x0 = 0 then pm_ev 91 72 pl st w else pm_ev 91 65 pl st w := pm_nif pt_91 d91_62 rfl rfl rfl
theorem d91_65 : decode cX6_text 65 = .ok (.aload_n 0, 1) := by decide +kernel
theorem z91_65 {st : List Value} {w : pm_H} {b1 b2 : Option Value} {x0 : Nat} : pm_ev 91 65 [some (.ref x0), b1, b2] st w = pm_ev 91 66 [some (.ref x0), b1, b2] (.ref x0 :: st) w := pm_ny pt_91 d91_65 rfl rfl rfl
theorem d91_66 : decode cX6_text 66 = .ok (.invokevirtual 169, 3) := by decide +kernel
theorem z91_66 {w : pm_H} {b0 b1 b2 : Option Value} {x0 : Nat} : pm_ev 91 66 [b0, b1, b2] [.ref x0] w = pm_k 91 69 [b0, b1, b2] [] (pm_vc (w x0) 6 (pm_call 117 [.ref x0] w)) := pm_nv pt_91 pt_117 pt_M_6_169 d91_66 ⟨rfl, rfl⟩ ⟨⟨rfl, Nat.le_of_ble_eq_true rfl, Nat.le_of_ble_eq_true rfl, Nat.le_of_ble_eq_true rfl, Nat.le_of_ble_eq_true rfl⟩, rfl⟩
theorem d91_69 : decode cX6_text 69 = .ok (.ifCond .ne 10, 3) := by decide +kernel
theorem z91_69 {st : List Value} {w : pm_H} {pl : pm_L} {x0 : Int32} : pm_ev 91 69 pl (.int x0 :: st) w = if x0 = 0 then pm_ev 91 72 pl st w else pm_ev 91 79 pl st w := pm_nin (c := ¬ x0 = 0) pt_91 d91_69 rfl rfl rfl Iff.rfl
theorem d91_72 : decode cX6_text 72 = .ok (.iconst (-1), 1) := by decide +kernel
theorem z91_72 {st : List Value} {w : pm_H} {pl : pm_L} : pm_ev 91 72 pl st w = pm_ev 91 73 pl (.int (-1) :: st) w := pm_ny pt_91 d91_72 rfl rfl rfl
theorem d91_73 : decode cX6_text 73 = .ok (.aload_n 0, 1) := by decide +kernel
theorem z91_73 {st : List Value} {w : pm_H} {b1 b2 : Option Value} {x0 : Nat} : pm_ev 91 73 [some (.ref x0), b1, b2] st w = pm_ev 91 74 [some (.ref x0), b1, b2] (.ref x0 :: st) w := pm_ny pt_91 d91_73 rfl rfl rfl
theorem d91_74 : decode cX6_text 74 = .ok (.getfield 75, 3) := by decide +kernel
theorem z91_74 {st : List Value} {w : pm_H} {pl : pm_L} {x0 : Nat} : pm_ev 91 74 pl (.ref x0 :: st) w = pm_kv 91 77 pl st w (pm_gf (w x0) 6 9) := pm_ng pt_91 pt_F_6_75 d91_74
theorem d91_77 : decode cX6_text 77 = .ok (.isub, 1) := by decide +kernel
theorem z91_77 {st : List Value} {w : pm_H} {pl : pm_L} {x0 x1 : Int32} : pm_ev 91 77 pl (.int x1 :: .int x0 :: st) w = pm_ev 91 78 pl (.int (x0 - x1) :: st) w := pm_ny pt_91 d91_77 rfl rfl rfl
theorem d91_78 : decode cX6_text 78 = .ok (.ireturn, 1) := by decide +kernel
theorem z91_78 {w : pm_H} {pl : pm_L} {x0 : Int32} : pm_ev 91 78 pl [.int x0] w = some (some (.int x0), w) := pm_nr pt_91 d91_78 rfl
theorem d91_79 : decode cX6_text 79 = .ok (.iinc 1 1, 3) := by decide +kernel
theorem z91_79 {st : List Value} {w : pm_H} {b2 : Option Value} {x0 : Int32} {x9 : Nat} : pm_ev 91 79 [some (.ref x9), some (.int x0), b2] st w = pm_ev 91 82 [some (.ref x9), some (.int (x0 + 1)), b2] st w := pm_ny pt_91 d91_79 rfl rfl rfl
theorem d91_82 : decode cX6_text 82 = .ok (.goto (-41), 3) := by decide +kernel
theorem z91_82 {st : List Value} {w : pm_H} {pl : pm_L} : pm_ev 91 82 pl st w = pm_ev 91 41 pl st w := pm_ny pt_91 d91_82 rfl rfl rfl
theorem d91_85 : decode cX6_text 85 = .ok (.iconst 0, 1) := by decide +kernel
theorem z91_85 {st : List Value} {w : pm_H} {pl : pm_L} : pm_ev 91 85 pl st w = pm_ev 91 86 pl (.int 0 :: st) w := pm_ny pt_91 d91_85 rfl rfl rfl
theorem d91_86 : decode cX6_text 86 = .ok (.istore_n 2, 1) := by decide +kernel
theorem z91_86 {st : List Value} {w : pm_H} {b0 b2 : Option Value} {x0 : Int32} {x9 : Int32} : pm_ev 91 86 [b0, some (.int x9), b2] (.int x0 :: st) w = pm_ev 91 87 [b0, some (.int x9), some (.int x0)] st w := pm_ny pt_91 d91_86 rfl rfl rfl
theorem d91_87 : decode cX6_text 87 = .ok (.iload_n 2, 1) := by decide +kernel
theorem z91_87 {st : List Value} {w : pm_H} {b0 b1 : Option Value} {x0 : Int32} : pm_ev 91 87 [b0, b1, some (.int x0)] st w = pm_ev 91 88 [b0, b1, some (.int x0)] (.int x0 :: st) w := pm_ny pt_91 d91_87 rfl rfl rfl
theorem d91_88 : decode cX6_text 88 = .ok (.bipush 103, 2) := by decide +kernel
theorem z91_88 {st : List Value} {w : pm_H} {pl : pm_L} : pm_ev 91 88 pl st w = pm_ev 91 90 pl (.int 103 :: st) w := pm_ny pt_91 d91_88 rfl rfl rfl
theorem d91_90 : decode cX6_text 90 = .ok (.if_icmp .ge 21, 3) := by decide +kernel
theorem z91_90 {st : List Value} {w : pm_H} {pl : pm_L} {x0 x1 : Int32} : pm_ev 91 90 pl (.int x1 :: .int x0 :: st) w = if x0 < x1 then pm_ev 91 93 pl st w else pm_ev 91 111 pl st w := pm_nin (c := x1 ≤ x0) pt_91 d91_90 rfl rfl rfl pm_ge
theorem d91_93 : decode cX6_text 93 = .ok (.aload_n 0, 1) := by decide +kernel
theorem z91_93 {st : List Value} {w : pm_H} {b1 b2 : Option Value} {x0 : Nat} : pm_ev 91 93 [some (.ref x0), b1, b2] st w = pm_ev 91 94 [some (.ref x0), b1, b2] (.ref x0 :: st) w := pm_ny pt_91 d91_93 rfl rfl rfl
theorem d91_94 : decode cX6_text 94 = .ok (.getfield 84, 3) := by decide +kernel
theorem z91_94 {st : List Value} {w : pm_H} {pl : pm_L} {x0 : Nat} : pm_ev 91 94 pl (.ref x0 :: st) w = pm_kv 91 97 pl st w (pm_gf (w x0) 6 11) := pm_ng pt_91 pt_F_6_84 d91_94
theorem d91_97 : decode cX6_text 97 = .ok (.iload_n 2, 1) := by decide +kernel
theorem z91_97 {st : List Value} {w : pm_H} {b0 b1 : Option Value} {x0 : Int32} : pm_ev 91 97 [b0, b1, some (.int x0)] st w = pm_ev 91 98 [b0, b1, some (.int x0)] (.int x0 :: st) w := pm_ny pt_91 d91_97 rfl rfl rfl
theorem d91_98 : decode cX6_text 98 = .ok (.aload_n 0, 1) := by decide +kernel
theorem z91_98 {st : List Value} {w : pm_H} {b1 b2 : Option Value} {x0 : Nat} : pm_ev 91 98 [some (.ref x0), b1, b2] st w = pm_ev 91 99 [some (.ref x0), b1, b2] (.ref x0 :: st) w := pm_ny pt_91 d91_98 rfl rfl rfl
theorem d91_99 : decode cX6_text 99 = .ok (.getfield 87, 3) := by decide +kernel
theorem z91_99 {st : List Value} {w : pm_H} {pl : pm_L} {x0 : Nat} : pm_ev 91 99 pl (.ref x0 :: st) w = pm_kv 91 102 pl st w (pm_gf (w x0) 6 12) := pm_ng pt_91 pt_F_6_87 d91_99
theorem d91_102 : decode cX6_text 102 = .ok (.iload_n 2, 1) := by decide +kernel
theorem z91_102 {st : List Value} {w : pm_H} {b0 b1 : Option Value} {x0 : Int32} : pm_ev 91 102 [b0, b1, some (.int x0)] st w = pm_ev 91 103 [b0, b1, some (.int x0)] (.int x0 :: st) w := pm_ny pt_91 d91_102 rfl rfl rfl
theorem d91_103 : decode cX6_text 103 = .ok (.iaload, 1) := by decide +kernel
theorem z91_103 {st : List Value} {w : pm_H} {pl : pm_L} {x0 : Nat} {x1 : Int32} : pm_ev 91 103 pl (.int x1 :: .ref x0 :: st) w = pm_kv 91 104 pl st w (pm_ia (w x0) 0 x1) := pm_nia pt_91 d91_103
theorem d91_104 : decode cX6_text 104 = .ok (.iastore, 1) := by decide +kernel
theorem z91_104 {st : List Value} {w : pm_H} {pl : pm_L} {x0 : Nat} {x1 : Int32} {x2 : Int32} : pm_ev 91 104 pl (.int x2 :: .int x1 :: .ref x0 :: st) w = pm_kw 91 105 pl st (pm_is w x0 (w x0) x1 x2) := pm_nis pt_91 d91_104
theorem d91_105 : decode cX6_text 105 = .ok (.iinc 2 1, 3) := by decide +kernel
theorem z91_105 {st : List Value} {w : pm_H} {b0 : Option Value} {x0 : Int32} {x9 : Int32} : pm_ev 91 105 [b0, some (.int x9), some (.int x0)] st w = pm_ev 91 108 [b0, some (.int x9), some (.int (x0 + 1))] st w := pm_ny pt_91 d91_105 rfl rfl rfl
theorem d91_108 : decode cX6_text 108 = .ok (.goto (-21), 3) := by decide +kernel
theorem z91_108 {st : List Value} {w : pm_H} {pl : pm_L} : pm_ev 91 108 pl st w = pm_ev 91 87 pl st w := pm_ny pt_91 d91_108 rfl rfl rfl
theorem d91_111 : decode cX6_text 111 = .ok (.aload_n 0, 1) := by decide +kernel
theorem z91_111 {st : List Value} {w : pm_H} {b1 b2 : Option Value} {x0 : Nat} : pm_ev 91 111 [some (.ref x0), b1, b2] st w = pm_ev 91 112 [some (.ref x0), b1, b2] (.ref x0 :: st) w := pm_ny pt_91 d91_111 rfl rfl rfl
theorem d91_112 : decode cX6_text 112 = .ok (.iconst 0, 1) := by decide +kernel
theorem z91_112 {st : List Value} {w : pm_H} {pl : pm_L} : pm_ev 91 112 pl st w = pm_ev 91 113 pl (.int 0 :: st) w := pm_ny pt_91 d91_112 rfl rfl rfl
theorem d91_113 : decode cX6_text 113 = .ok (.putfield 172, 3) := by decide +kernel
theorem z91_113 {st : List Value} {w : pm_H} {pl : pm_L} {x0 : Nat} {x1 : Int32} : pm_ev 91 113 pl (.int x1 :: .ref x0 :: st) w = pm_kw 91 116 pl st (pm_pf w x0 (w x0) 6 14 0 (.int x1)) := pm_np pt_91 pt_F_6_172 d91_113
theorem d91_116 : decode cX6_text 116 = .ok (.iload_n 1, 1) := by decide +kernel
theorem z91_116 {st : List Value} {w : pm_H} {b0 b2 : Option Value} {x0 : Int32} : pm_ev 91 116 [b0, some (.int x0), b2] st w = pm_ev 91 117 [b0, some (.int x0), b2] (.int x0 :: st) w := pm_ny pt_91 d91_116 rfl rfl rfl
theorem d91_117 : decode cX6_text 117 = .ok (.ireturn, 1) := by decide +kernel
theorem z91_117 {w : pm_H} {pl : pm_L} {x0 : Int32} : pm_ev 91 117 pl [.int x0] w = some (some (.int x0), w) := pm_nr pt_91 d91_117 rfl
theorem d92_0 : decode cX6_go 0 = .ok (.aload_n 0, 1) := by decide +kernel
theorem z92_0 {st : List Value} {w : pm_H} {b1 b2 b3 b4 : Option Value} {x0 : Nat} : pm_ev 92 0 [some (.ref x0), b1, b2, b3, b4] st w = pm_ev 92 1 [some (.ref x0), b1, b2, b3, b4] (.ref x0 :: st) w := pm_ny pt_92 d92_0 rfl rfl rfl
theorem d92_1 : decode cX6_go 1 = .ok (.getfield 21, 3) := by decide +kernel
theorem z92_1 {st : List Value} {w : pm_H} {pl : pm_L} {x0 : Nat} : pm_ev 92 1 pl (.ref x0 :: st) w = pm_kv 92 4 pl st w (pm_gf (w x0) 6 4) := pm_ng pt_92 pt_F_6_21 d92_1
theorem d92_4 : decode cX6_go 4 = .ok (.aload_n 0, 1) := by decide +kernel
theorem z92_4 {st : List Value} {w : pm_H} {b1 b2 b3 b4 : Option Value} {x0 : Nat} : pm_ev 92 4 [some (.ref x0), b1, b2, b3, b4] st w = pm_ev 92 5 [some (.ref x0), b1, b2, b3, b4] (.ref x0 :: st) w := pm_ny pt_92 d92_4 rfl rfl rfl
theorem d92_5 : decode cX6_go 5 = .ok (.getfield 18, 3) := by decide +kernel
theorem z92_5 {st : List Value} {w : pm_H} {pl : pm_L} {x0 : Nat} : pm_ev 92 5 pl (.ref x0 :: st) w = pm_kv 92 8 pl st w (pm_gf (w x0) 6 3) := pm_ng pt_92 pt_F_6_18 d92_5
theorem d92_8 : decode cX6_go 8 = .ok (.if_icmp .ge 44, 3) := by decide +kernel
theorem z92_8 {st : List Value} {w : pm_H} {pl : pm_L} {x0 x1 : Int32} : pm_ev 92 8 pl (.int x1 :: .int x0 :: st) w = if x0 < x1 then pm_ev 92 11 pl st w else pm_ev 92 52 pl st w := pm_nin (c := x1 ≤ x0) pt_92 d92_8 rfl rfl rfl pm_ge
theorem d92_11 : decode cX6_go 11 = .ok (.aload_n 0, 1) := by decide +kernel
theorem z92_11 {st : List Value} {w : pm_H} {b1 b2 b3 b4 : Option Value} {x0 : Nat} : pm_ev 92 11 [some (.ref x0), b1, b2, b3, b4] st w = pm_ev 92 12 [some (.ref x0), b1, b2, b3, b4] (.ref x0 :: st) w := pm_ny pt_92 d92_11 rfl rfl rfl
theorem d92_12 : decode cX6_go 12 = .ok (.getfield 7, 3) := by decide +kernel
theorem z92_12 {st : List Value} {w : pm_H} {pl : pm_L} {x0 : Nat} : pm_ev 92 12 pl (.ref x0 :: st) w = pm_kv 92 15 pl st w (pm_gf (w x0) 6 1) := pm_ng pt_92 pt_F_6_7 d92_12
theorem d92_15 : decode cX6_go 15 = .ok (.aload_n 0, 1) := by decide +kernel
theorem z92_15 {st : List Value} {w : pm_H} {b1 b2 b3 b4 : Option Value} {x0 : Nat} : pm_ev 92 15 [some (.ref x0), b1, b2, b3, b4] st w = pm_ev 92 16 [some (.ref x0), b1, b2, b3, b4] (.ref x0 :: st) w := pm_ny pt_92 d92_15 rfl rfl rfl
theorem d92_16 : decode cX6_go 16 = .ok (.getfield 21, 3) := by decide +kernel
theorem z92_16 {st : List Value} {w : pm_H} {pl : pm_L} {x0 : Nat} : pm_ev 92 16 pl (.ref x0 :: st) w = pm_kv 92 19 pl st w (pm_gf (w x0) 6 4) := pm_ng pt_92 pt_F_6_21 d92_16
theorem d92_19 : decode cX6_go 19 = .ok (.iaload, 1) := by decide +kernel
theorem z92_19 {st : List Value} {w : pm_H} {pl : pm_L} {x0 : Nat} {x1 : Int32} : pm_ev 92 19 pl (.int x1 :: .ref x0 :: st) w = pm_kv 92 20 pl st w (pm_ia (w x0) 0 x1) := pm_nia pt_92 d92_19
theorem d92_20 : decode cX6_go 20 = .ok (.bipush 32, 2) := by decide +kernel
theorem z92_20 {st : List Value} {w : pm_H} {pl : pm_L} : pm_ev 92 20 pl st w = pm_ev 92 22 pl (.int 32 :: st) w := pm_ny pt_92 d92_20 rfl rfl rfl
theorem d92_22 : decode cX6_go 22 = .ok (.if_icmp .eq 17, 3) := by decide +kernel
theorem z92_22 {st : List Value} {w : pm_H} {pl : pm_L} {x0 x1 : Int32} : pm_ev 92 22 pl (.int x1 :: .int x0 :: st) w = if x0 = x1 then pm_ev 92 39 pl st w else pm_ev 92 25 pl st w := pm_nif pt_92 d92_22 rfl rfl rfl
theorem d92_25 : decode cX6_go 25 = .ok (.aload_n 0, 1) := by decide +kernel
theorem z92_25 {st : List Value} {w : pm_H} {b1 b2 b3 b4 : Option Value} {x0 : Nat} : pm_ev 92 25 [some (.ref x0), b1, b2, b3, b4] st w = pm_ev 92 26 [some (.ref x0), b1, b2, b3, b4] (.ref x0 :: st) w := pm_ny pt_92 d92_25 rfl rfl rfl
theorem d92_26 : decode cX6_go 26 = .ok (.getfield 7, 3) := by decide +kernel
theorem z92_26 {st : List Value} {w : pm_H} {pl : pm_L} {x0 : Nat} : pm_ev 92 26 pl (.ref x0 :: st) w = pm_kv 92 29 pl st w (pm_gf (w x0) 6 1) := pm_ng pt_92 pt_F_6_7 d92_26
theorem d92_29 : decode cX6_go 29 = .ok (.aload_n 0, 1) := by decide +kernel
theorem z92_29 {st : List Value} {w : pm_H} {b1 b2 b3 b4 : Option Value} {x0 : Nat} : pm_ev 92 29 [some (.ref x0), b1, b2, b3, b4] st w = pm_ev 92 30 [some (.ref x0), b1, b2, b3, b4] (.ref x0 :: st) w := pm_ny pt_92 d92_29 rfl rfl rfl
theorem d92_30 : decode cX6_go 30 = .ok (.getfield 21, 3) := by decide +kernel
theorem z92_30 {st : List Value} {w : pm_H} {pl : pm_L} {x0 : Nat} : pm_ev 92 30 pl (.ref x0 :: st) w = pm_kv 92 33 pl st w (pm_gf (w x0) 6 4) := pm_ng pt_92 pt_F_6_21 d92_30
theorem d92_33 : decode cX6_go 33 = .ok (.iaload, 1) := by decide +kernel
theorem z92_33 {st : List Value} {w : pm_H} {pl : pm_L} {x0 : Nat} {x1 : Int32} : pm_ev 92 33 pl (.int x1 :: .ref x0 :: st) w = pm_kv 92 34 pl st w (pm_ia (w x0) 0 x1) := pm_nia pt_92 d92_33
theorem d92_34 : decode cX6_go 34 = .ok (.bipush 10, 2) := by decide +kernel
theorem z92_34 {st : List Value} {w : pm_H} {pl : pm_L} : pm_ev 92 34 pl st w = pm_ev 92 36 pl (.int 10 :: st) w := pm_ny pt_92 d92_34 rfl rfl rfl
theorem d92_36 : decode cX6_go 36 = .ok (.if_icmp .ne 16, 3) := by decide +kernel
theorem z92_36 {st : List Value} {w : pm_H} {pl : pm_L} {x0 x1 : Int32} : pm_ev 92 36 pl (.int x1 :: .int x0 :: st) w = if x0 = x1 then pm_ev 92 39 pl st w else pm_ev 92 52 pl st w := pm_nin (c := ¬ x0 = x1) pt_92 d92_36 rfl rfl rfl Iff.rfl
theorem d92_39 : decode cX6_go 39 = .ok (.aload_n 0, 1) := by decide +kernel
theorem z92_39 {st : List Value} {w : pm_H} {b1 b2 b3 b4 : Option Value} {x0 : Nat} : pm_ev 92 39 [some (.ref x0), b1, b2, b3, b4] st w = pm_ev 92 40 [some (.ref x0), b1, b2, b3, b4] (.ref x0 :: st) w := pm_ny pt_92 d92_39 rfl rfl rfl
theorem d92_40 : decode cX6_go 40 = .ok (.dup, 1) := by decide +kernel
theorem z92_40 {st : List Value} {w : pm_H} {pl : pm_L} {x0 : Nat} : pm_ev 92 40 pl (.ref x0 :: st) w = pm_ev 92 41 pl (.ref x0 :: .ref x0 :: st) w := pm_ny pt_92 d92_40 rfl rfl rfl
theorem d92_41 : decode cX6_go 41 = .ok (.getfield 21, 3) := by decide +kernel
theorem z92_41 {st : List Value} {w : pm_H} {pl : pm_L} {x0 : Nat} : pm_ev 92 41 pl (.ref x0 :: st) w = pm_kv 92 44 pl st w (pm_gf (w x0) 6 4) := pm_ng pt_92 pt_F_6_21 d92_41
theorem d92_44 : decode cX6_go 44 = .ok (.iconst 1, 1) := by decide +kernel
theorem z92_44 {st : List Value} {w : pm_H} {pl : pm_L} : pm_ev 92 44 pl st w = pm_ev 92 45 pl (.int 1 :: st) w := pm_ny pt_92 d92_44 rfl rfl rfl
theorem d92_45 : decode cX6_go 45 = .ok (.iadd, 1) := by decide +kernel
theorem z92_45 {st : List Value} {w : pm_H} {pl : pm_L} {x0 x1 : Int32} : pm_ev 92 45 pl (.int x1 :: .int x0 :: st) w = pm_ev 92 46 pl (.int (x0 + x1) :: st) w := pm_ny pt_92 d92_45 rfl rfl rfl
theorem d92_46 : decode cX6_go 46 = .ok (.putfield 21, 3) := by decide +kernel
theorem z92_46 {st : List Value} {w : pm_H} {pl : pm_L} {x0 : Nat} {x1 : Int32} : pm_ev 92 46 pl (.int x1 :: .ref x0 :: st) w = pm_kw 92 49 pl st (pm_pf w x0 (w x0) 6 4 0 (.int x1)) := pm_np pt_92 pt_F_6_21 d92_46
theorem d92_49 : decode cX6_go 49 = .ok (.goto (-49), 3) := by decide +kernel
theorem z92_49 {st : List Value} {w : pm_H} {pl : pm_L} : pm_ev 92 49 pl st w = pm_ev 92 0 pl st w := pm_ny pt_92 d92_49 rfl rfl rfl
theorem d92_52 : decode cX6_go 52 = .ok (.aload_n 0, 1) := by decide +kernel
theorem z92_52 {st : List Value} {w : pm_H} {b1 b2 b3 b4 : Option Value} {x0 : Nat} : pm_ev 92 52 [some (.ref x0), b1, b2, b3, b4] st w = pm_ev 92 53 [some (.ref x0), b1, b2, b3, b4] (.ref x0 :: st) w := pm_ny pt_92 d92_52 rfl rfl rfl
theorem d92_53 : decode cX6_go 53 = .ok (.aload_n 0, 1) := by decide +kernel
theorem z92_53 {st : List Value} {w : pm_H} {b1 b2 b3 b4 : Option Value} {x0 : Nat} : pm_ev 92 53 [some (.ref x0), b1, b2, b3, b4] st w = pm_ev 92 54 [some (.ref x0), b1, b2, b3, b4] (.ref x0 :: st) w := pm_ny pt_92 d92_53 rfl rfl rfl
theorem d92_54 : decode cX6_go 54 = .ok (.getfield 21, 3) := by decide +kernel
theorem z92_54 {st : List Value} {w : pm_H} {pl : pm_L} {x0 : Nat} : pm_ev 92 54 pl (.ref x0 :: st) w = pm_kv 92 57 pl st w (pm_gf (w x0) 6 4) := pm_ng pt_92 pt_F_6_21 d92_54
theorem d92_57 : decode cX6_go 57 = .ok (.putfield 24, 3) := by decide +kernel
theorem z92_57 {st : List Value} {w : pm_H} {pl : pm_L} {x0 : Nat} {x1 : Int32} : pm_ev 92 57 pl (.int x1 :: .ref x0 :: st) w = pm_kw 92 60 pl st (pm_pf w x0 (w x0) 6 5 0 (.int x1)) := pm_np pt_92 pt_F_6_24 d92_57
theorem d92_60 : decode cX6_go 60 = .ok (.aload_n 0, 1) := by decide +kernel
theorem z92_60 {st : List Value} {w : pm_H} {b1 b2 b3 b4 : Option Value} {x0 : Nat} : pm_ev 92 60 [some (.ref x0), b1, b2, b3, b4] st w = pm_ev 92 61 [some (.ref x0), b1, b2, b3, b4] (.ref x0 :: st) w := pm_ny pt_92 d92_60 rfl rfl rfl
theorem d92_61 : decode cX6_go 61 = .ok (.getfield 18, 3) := by decide +kernel
theorem z92_61 {st : List Value} {w : pm_H} {pl : pm_L} {x0 : Nat} : pm_ev 92 61 pl (.ref x0 :: st) w = pm_kv 92 64 pl st w (pm_gf (w x0) 6 3) := pm_ng pt_92 pt_F_6_18 d92_61
theorem d92_64 : decode cX6_go 64 = .ok (.sipush 700, 3) := by decide +kernel
theorem z92_64 {st : List Value} {w : pm_H} {pl : pm_L} : pm_ev 92 64 pl st w = pm_ev 92 67 pl (.int 700 :: st) w := pm_ny pt_92 d92_64 rfl rfl rfl
theorem d92_67 : decode cX6_go 67 = .ok (.if_icmp .le 26, 3) := by decide +kernel
theorem z92_67 {st : List Value} {w : pm_H} {pl : pm_L} {x0 x1 : Int32} : pm_ev 92 67 pl (.int x1 :: .int x0 :: st) w = if x1 < x0 then pm_ev 92 70 pl st w else pm_ev 92 93 pl st w := pm_nin (c := x0 ≤ x1) pt_92 d92_67 rfl rfl rfl pm_ge
theorem d92_70 : decode cX6_go 70 = .ok (.aload_n 0, 1) := by decide +kernel
theorem z92_70 {st : List Value} {w : pm_H} {b1 b2 b3 b4 : Option Value} {x0 : Nat} : pm_ev 92 70 [some (.ref x0), b1, b2, b3, b4] st w = pm_ev 92 71 [some (.ref x0), b1, b2, b3, b4] (.ref x0 :: st) w := pm_ny pt_92 d92_70 rfl rfl rfl
theorem d92_71 : decode cX6_go 71 = .ok (.getfield 24, 3) := by decide +kernel
theorem z92_71 {st : List Value} {w : pm_H} {pl : pm_L} {x0 : Nat} : pm_ev 92 71 pl (.ref x0 :: st) w = pm_kv 92 74 pl st w (pm_gf (w x0) 6 5) := pm_ng pt_92 pt_F_6_24 d92_71
theorem d92_74 : decode cX6_go 74 = .ok (.sipush 700, 3) := by decide +kernel
theorem z92_74 {st : List Value} {w : pm_H} {pl : pm_L} : pm_ev 92 74 pl st w = pm_ev 92 77 pl (.int 700 :: st) w := pm_ny pt_92 d92_74 rfl rfl rfl
theorem d92_77 : decode cX6_go 77 = .ok (.if_icmp .lt 16, 3) := by decide +kernel
theorem z92_77 {st : List Value} {w : pm_H} {pl : pm_L} {x0 x1 : Int32} : pm_ev 92 77 pl (.int x1 :: .int x0 :: st) w = if x0 < x1 then pm_ev 92 93 pl st w else pm_ev 92 80 pl st w := pm_nif pt_92 d92_77 rfl rfl rfl
theorem d92_80 : decode cX6_go 80 = .ok (.aload_n 0, 1) := by decide +kernel
theorem z92_80 {st : List Value} {w : pm_H} {b1 b2 b3 b4 : Option Value} {x0 : Nat} : pm_ev 92 80 [some (.ref x0), b1, b2, b3, b4] st w = pm_ev 92 81 [some (.ref x0), b1, b2, b3, b4] (.ref x0 :: st) w := pm_ny pt_92 d92_80 rfl rfl rfl
theorem d92_81 : decode cX6_go 81 = .ok (.sipush 700, 3) := by decide +kernel
theorem z92_81 {st : List Value} {w : pm_H} {pl : pm_L} : pm_ev 92 81 pl st w = pm_ev 92 84 pl (.int 700 :: st) w := pm_ny pt_92 d92_81 rfl rfl rfl
theorem d92_84 : decode cX6_go 84 = .ok (.putfield 24, 3) := by decide +kernel
theorem z92_84 {st : List Value} {w : pm_H} {pl : pm_L} {x0 : Nat} {x1 : Int32} : pm_ev 92 84 pl (.int x1 :: .ref x0 :: st) w = pm_kw 92 87 pl st (pm_pf w x0 (w x0) 6 5 0 (.int x1)) := pm_np pt_92 pt_F_6_24 d92_84
theorem d92_87 : decode cX6_go 87 = .ok (.aload_n 0, 1) := by decide +kernel
theorem z92_87 {st : List Value} {w : pm_H} {b1 b2 b3 b4 : Option Value} {x0 : Nat} : pm_ev 92 87 [some (.ref x0), b1, b2, b3, b4] st w = pm_ev 92 88 [some (.ref x0), b1, b2, b3, b4] (.ref x0 :: st) w := pm_ny pt_92 d92_87 rfl rfl rfl
theorem d92_88 : decode cX6_go 88 = .ok (.iconst 1, 1) := by decide +kernel
theorem z92_88 {st : List Value} {w : pm_H} {pl : pm_L} : pm_ev 92 88 pl st w = pm_ev 92 89 pl (.int 1 :: st) w := pm_ny pt_92 d92_88 rfl rfl rfl
theorem d92_89 : decode cX6_go 89 = .ok (.putfield 27, 3) := by decide +kernel
theorem z92_89 {st : List Value} {w : pm_H} {pl : pm_L} {x0 : Nat} {x1 : Int32} : pm_ev 92 89 pl (.int x1 :: .ref x0 :: st) w = pm_kw 92 92 pl st (pm_pf w x0 (w x0) 6 6 0 (.int x1)) := pm_np pt_92 pt_F_6_27 d92_89
theorem d92_92 : decode cX6_go 92 = .ok (.return_, 1) := by decide +kernel
theorem z92_92 {w : pm_H} {pl : pm_L} : pm_ev 92 92 pl [] w = some (none, w) := pm_nr pt_92 d92_92 rfl
theorem d92_93 : decode cX6_go 93 = .ok (.aload_n 0, 1) := by decide +kernel
theorem z92_93 {st : List Value} {w : pm_H} {b1 b2 b3 b4 : Option Value} {x0 : Nat} : pm_ev 92 93 [some (.ref x0), b1, b2, b3, b4] st w = pm_ev 92 94 [some (.ref x0), b1, b2, b3, b4] (.ref x0 :: st) w := pm_ny pt_92 d92_93 rfl rfl rfl
theorem d92_94 : decode cX6_go 94 = .ok (.getfield 21, 3) := by decide +kernel
theorem z92_94 {st : List Value} {w : pm_H} {pl : pm_L} {x0 : Nat} : pm_ev 92 94 pl (.ref x0 :: st) w = pm_kv 92 97 pl st w (pm_gf (w x0) 6 4) := pm_ng pt_92 pt_F_6_21 d92_94
theorem d92_97 : decode cX6_go 97 = .ok (.aload_n 0, 1) := by decide +kernel
theorem z92_97 {st : List Value} {w : pm_H} {b1 b2 b3 b4 : Option Value} {x0 : Nat} : pm_ev 92 97 [some (.ref x0), b1, b2, b3, b4] st w = pm_ev 92 98 [some (.ref x0), b1, b2, b3, b4] (.ref x0 :: st) w := pm_ny pt_92 d92_97 rfl rfl rfl
theorem d92_98 : decode cX6_go 98 = .ok (.getfield 18, 3) := by decide +kernel
theorem z92_98 {st : List Value} {w : pm_H} {pl : pm_L} {x0 : Nat} : pm_ev 92 98 pl (.ref x0 :: st) w = pm_kv 92 101 pl st w (pm_gf (w x0) 6 3) := pm_ng pt_92 pt_F_6_18 d92_98
theorem d92_101 : decode cX6_go 101 = .ok (.if_icmp .lt 9, 3) := by decide +kernel
theorem z92_101 {st : List Value} {w : pm_H} {pl : pm_L} {x0 x1 : Int32} : pm_ev 92 101 pl (.int x1 :: .int x0 :: st) w = if x0 < x1 then pm_ev 92 110 pl st w else pm_ev 92 104 pl st w := pm_nif pt_92 d92_101 rfl rfl rfl
theorem d92_104 : decode cX6_go 104 = .ok (.aload_n 0, 1) := by decide +kernel
theorem z92_104 {st : List Value} {w : pm_H} {b1 b2 b3 b4 : Option Value} {x0 : Nat} : pm_ev 92 104 [some (.ref x0), b1, b2, b3, b4] st w = pm_ev 92 105 [some (.ref x0), b1, b2, b3, b4] (.ref x0 :: st) w := pm_ny pt_92 d92_104 rfl rfl rfl
theorem d92_105 : decode cX6_go 105 = .ok (.iconst 0, 1) := by decide +kernel
theorem z92_105 {st : List Value} {w : pm_H} {pl : pm_L} : pm_ev 92 105 pl st w = pm_ev 92 106 pl (.int 0 :: st) w := pm_ny pt_92 d92_105 rfl rfl rfl
theorem d92_106 : decode cX6_go 106 = .ok (.putfield 27, 3) := by decide +kernel
theorem z92_106 {st : List Value} {w : pm_H} {pl : pm_L} {x0 : Nat} {x1 : Int32} : pm_ev 92 106 pl (.int x1 :: .ref x0 :: st) w = pm_kw 92 109 pl st (pm_pf w x0 (w x0) 6 6 0 (.int x1)) := pm_np pt_92 pt_F_6_27 d92_106
theorem d92_109 : decode cX6_go 109 = .ok (.return_, 1) := by decide +kernel
theorem z92_109 {w : pm_H} {pl : pm_L} : pm_ev 92 109 pl [] w = some (none, w) := pm_nr pt_92 d92_109 rfl
theorem d92_110 : decode cX6_go 110 = .ok (.aload_n 0, 1) := by decide +kernel
theorem z92_110 {st : List Value} {w : pm_H} {b1 b2 b3 b4 : Option Value} {x0 : Nat} : pm_ev 92 110 [some (.ref x0), b1, b2, b3, b4] st w = pm_ev 92 111 [some (.ref x0), b1, b2, b3, b4] (.ref x0 :: st) w := pm_ny pt_92 d92_110 rfl rfl rfl
theorem d92_111 : decode cX6_go 111 = .ok (.getfield 7, 3) := by decide +kernel
theorem z92_111 {st : List Value} {w : pm_H} {pl : pm_L} {x0 : Nat} : pm_ev 92 111 pl (.ref x0 :: st) w = pm_kv 92 114 pl st w (pm_gf (w x0) 6 1) := pm_ng pt_92 pt_F_6_7 d92_111
theorem d92_114 : decode cX6_go 114 = .ok (.aload_n 0, 1) := by decide +kernel
theorem z92_114 {st : List Value} {w : pm_H} {b1 b2 b3 b4 : Option Value} {x0 : Nat} : pm_ev 92 114 [some (.ref x0), b1, b2, b3, b4] st w = pm_ev 92 115 [some (.ref x0), b1, b2, b3, b4] (.ref x0 :: st) w := pm_ny pt_92 d92_114 rfl rfl rfl
theorem d92_115 : decode cX6_go 115 = .ok (.getfield 21, 3) := by decide +kernel
theorem z92_115 {st : List Value} {w : pm_H} {pl : pm_L} {x0 : Nat} : pm_ev 92 115 pl (.ref x0 :: st) w = pm_kv 92 118 pl st w (pm_gf (w x0) 6 4) := pm_ng pt_92 pt_F_6_21 d92_115
theorem d92_118 : decode cX6_go 118 = .ok (.iaload, 1) := by decide +kernel
theorem z92_118 {st : List Value} {w : pm_H} {pl : pm_L} {x0 : Nat} {x1 : Int32} : pm_ev 92 118 pl (.int x1 :: .ref x0 :: st) w = pm_kv 92 119 pl st w (pm_ia (w x0) 0 x1) := pm_nia pt_92 d92_118
theorem d92_119 : decode cX6_go 119 = .ok (.istore_n 1, 1) := by decide +kernel
theorem z92_119 {st : List Value} {w : pm_H} {b1 b2 b3 b4 : Option Value} {x0 : Int32} {x9 : Nat} : pm_ev 92 119 [some (.ref x9), b1, b2, b3, b4] (.int x0 :: st) w = pm_ev 92 120 [some (.ref x9), some (.int x0), b2, b3, b4] st w := pm_ny pt_92 d92_119 rfl rfl rfl
theorem d92_120 : decode cX6_go 120 = .ok (.iload_n 1, 1) := by decide +kernel
theorem z92_120 {st : List Value} {w : pm_H} {b0 b2 b3 b4 : Option Value} {x0 : Int32} : pm_ev 92 120 [b0, some (.int x0), b2, b3, b4] st w = pm_ev 92 121 [b0, some (.int x0), b2, b3, b4] (.int x0 :: st) w := pm_ny pt_92 d92_120 rfl rfl rfl
theorem d92_121 : decode cX6_go 121 = .ok (.invokestatic 30, 3) := by decide +kernel
theorem z92_121 {w : pm_H} {b0 b1 b2 b3 b4 : Option Value} {x0 : Int32} : pm_ev 92 121 [b0, b1, b2, b3, b4] [.int x0] w = pm_k 92 124 [b0, b1, b2, b3, b4] [] (pm_call 93 [.int x0] w) := pm_ns pt_92 pt_93 pt_M_6_30 (Or.inl rfl) d92_121 ⟨rfl, rfl⟩ ⟨⟨rfl, Nat.le_of_ble_eq_true rfl, Nat.le_of_ble_eq_true rfl, Nat.le_of_ble_eq_true rfl, Nat.le_of_ble_eq_true rfl⟩, rfl⟩
theorem d92_124 : decode cX6_go 124 = .ok (.ifCond .ne 36, 3) := by decide +kernel
theorem z92_124 {st : List Value} {w : pm_H} {pl : pm_L} {x0 : Int32} : pm_ev 92 124 pl (.int x0 :: st) w = if x0 = 0 then pm_ev 92 127 pl st w else pm_ev 92 160 pl st w := pm_nin (c := ¬ x0 = 0) pt_92 d92_124 rfl rfl rfl Iff.rfl
theorem d92_127 : decode cX6_go 127 = .ok (.iload_n 1, 1) := by decide +kernel
theorem z92_127 {st : List Value} {w : pm_H} {b0 b2 b3 b4 : Option Value} {x0 : Int32} : pm_ev 92 127 [b0, some (.int x0), b2, b3, b4] st w = pm_ev 92 128 [b0, some (.int x0), b2, b3, b4] (.int x0 :: st) w := pm_ny pt_92 d92_127 rfl rfl rfl
theorem d92_128 : decode cX6_go 128 = .ok (.invokestatic 34, 3) := by decide +kernel
theorem z92_128 {w : pm_H} {b0 b1 b2 b3 b4 : Option Value} {x0 : Int32} : pm_ev 92 128 [b0, b1, b2, b3, b4] [.int x0] w = pm_k 92 131 [b0, b1, b2, b3, b4] [] (pm_call 94 [.int x0] w) := pm_ns pt_92 pt_94 pt_M_6_34 (Or.inl rfl) d92_128 ⟨rfl, rfl⟩ ⟨⟨rfl, Nat.le_of_ble_eq_true rfl, Nat.le_of_ble_eq_true rfl, Nat.le_of_ble_eq_true rfl, Nat.le_of_ble_eq_true rfl⟩, rfl⟩
theorem d92_131 : decode cX6_go 131 = .ok (.ifCond .ne 29, 3) := by decide +kernel
theorem z92_131 {st : List Value} {w : pm_H} {pl : pm_L} {x0 : Int32} : pm_ev 92 131 pl (.int x0 :: st) w = if x0 = 0 then pm_ev 92 134 pl st w else pm_ev 92 160 pl st w := pm_nin (c := ¬ x0 = 0) pt_92 d92_131 rfl rfl rfl Iff.rfl
theorem d92_134 : decode cX6_go 134 = .ok (.aload_n 0, 1) := by decide +kernel
theorem z92_134 {st : List Value} {w : pm_H} {b1 b2 b3 b4 : Option Value} {x0 : Nat} : pm_ev 92 134 [some (.ref x0), b1, b2, b3, b4] st w = pm_ev 92 135 [some (.ref x0), b1, b2, b3, b4] (.ref x0 :: st) w := pm_ny pt_92 d92_134 rfl rfl rfl
theorem d92_135 : decode cX6_go 135 = .ok (.iload_n 1, 1) := by decide +kernel
theorem z92_135 {st : List Value} {w : pm_H} {b0 b2 b3 b4 : Option Value} {x0 : Int32} : pm_ev 92 135 [b0, some (.int x0), b2, b3, b4] st w = pm_ev 92 136 [b0, some (.int x0), b2, b3, b4] (.int x0 :: st) w := pm_ny pt_92 d92_135 rfl rfl rfl
theorem d92_136 : decode cX6_go 136 = .ok (.bipush 59, 2) := by decide +kernel
theorem z92_136 {st : List Value} {w : pm_H} {pl : pm_L} : pm_ev 92 136 pl st w = pm_ev 92 138 pl (.int 59 :: st) w := pm_ny pt_92 d92_136 rfl rfl rfl
theorem d92_138 : decode cX6_go 138 = .ok (.if_icmp .ne 7, 3) := by decide +kernel
theorem z92_138 {st : List Value} {w : pm_H} {pl : pm_L} {x0 x1 : Int32} : pm_ev 92 138 pl (.int x1 :: .int x0 :: st) w = if x0 = x1 then pm_ev 92 141 pl st w else pm_ev 92 145 pl st w := pm_nin (c := ¬ x0 = x1) pt_92 d92_138 rfl rfl rfl Iff.rfl
theorem d92_141 : decode cX6_go 141 = .ok (.iconst 4, 1) := by decide +kernel
theorem z92_141 {st : List Value} {w : pm_H} {pl : pm_L} : pm_ev 92 141 pl st w = pm_ev 92 142 pl (.int 4 :: st) w := pm_ny pt_92 d92_141 rfl rfl rfl
theorem d92_142 : decode cX6_go 142 = .ok (.goto 4, 3) := by decide +kernel
theorem z92_142 {st : List Value} {w : pm_H} {pl : pm_L} : pm_ev 92 142 pl st w = pm_ev 92 146 pl st w := pm_ny pt_92 d92_142 rfl rfl rfl
theorem d92_145 : decode cX6_go 145 = .ok (.iconst 1, 1) := by decide +kernel
theorem z92_145 {st : List Value} {w : pm_H} {pl : pm_L} : pm_ev 92 145 pl st w = pm_ev 92 146 pl (.int 1 :: st) w := pm_ny pt_92 d92_145 rfl rfl rfl
theorem d92_146 : decode cX6_go 146 = .ok (.putfield 27, 3) := by decide +kernel
theorem z92_146 {st : List Value} {w : pm_H} {pl : pm_L} {x0 : Nat} {x1 : Int32} : pm_ev 92 146 pl (.int x1 :: .ref x0 :: st) w = pm_kw 92 149 pl st (pm_pf w x0 (w x0) 6 6 0 (.int x1)) := pm_np pt_92 pt_F_6_27 d92_146
theorem d92_149 : decode cX6_go 149 = .ok (.aload_n 0, 1) := by decide +kernel
theorem z92_149 {st : List Value} {w : pm_H} {b1 b2 b3 b4 : Option Value} {x0 : Nat} : pm_ev 92 149 [some (.ref x0), b1, b2, b3, b4] st w = pm_ev 92 150 [some (.ref x0), b1, b2, b3, b4] (.ref x0 :: st) w := pm_ny pt_92 d92_149 rfl rfl rfl
theorem d92_150 : decode cX6_go 150 = .ok (.dup, 1) := by decide +kernel
theorem z92_150 {st : List Value} {w : pm_H} {pl : pm_L} {x0 : Nat} : pm_ev 92 150 pl (.ref x0 :: st) w = pm_ev 92 151 pl (.ref x0 :: .ref x0 :: st) w := pm_ny pt_92 d92_150 rfl rfl rfl
theorem d92_151 : decode cX6_go 151 = .ok (.getfield 21, 3) := by decide +kernel
theorem z92_151 {st : List Value} {w : pm_H} {pl : pm_L} {x0 : Nat} : pm_ev 92 151 pl (.ref x0 :: st) w = pm_kv 92 154 pl st w (pm_gf (w x0) 6 4) := pm_ng pt_92 pt_F_6_21 d92_151
theorem d92_154 : decode cX6_go 154 = .ok (.iconst 1, 1) := by decide +kernel
theorem z92_154 {st : List Value} {w : pm_H} {pl : pm_L} : pm_ev 92 154 pl st w = pm_ev 92 155 pl (.int 1 :: st) w := pm_ny pt_92 d92_154 rfl rfl rfl
theorem d92_155 : decode cX6_go 155 = .ok (.iadd, 1) := by decide +kernel
theorem z92_155 {st : List Value} {w : pm_H} {pl : pm_L} {x0 x1 : Int32} : pm_ev 92 155 pl (.int x1 :: .int x0 :: st) w = pm_ev 92 156 pl (.int (x0 + x1) :: st) w := pm_ny pt_92 d92_155 rfl rfl rfl
theorem d92_156 : decode cX6_go 156 = .ok (.putfield 21, 3) := by decide +kernel
theorem z92_156 {st : List Value} {w : pm_H} {pl : pm_L} {x0 : Nat} {x1 : Int32} : pm_ev 92 156 pl (.int x1 :: .ref x0 :: st) w = pm_kw 92 159 pl st (pm_pf w x0 (w x0) 6 4 0 (.int x1)) := pm_np pt_92 pt_F_6_21 d92_156
theorem d92_159 : decode cX6_go 159 = .ok (.return_, 1) := by decide +kernel
theorem z92_159 {w : pm_H} {pl : pm_L} : pm_ev 92 159 pl [] w = some (none, w) := pm_nr pt_92 d92_159 rfl
theorem d92_160 : decode cX6_go 160 = .ok (.iload_n 1, 1) := by decide +kernel
theorem z92_160 {st : List Value} {w : pm_H} {b0 b2 b3 b4 : Option Value} {x0 : Int32} : pm_ev 92 160 [b0, some (.int x0), b2, b3, b4] st w = pm_ev 92 161 [b0, some (.int x0), b2, b3, b4] (.int x0 :: st) w := pm_ny pt_92 d92_160 rfl rfl rfl
theorem d92_161 : decode cX6_go 161 = .ok (.invokestatic 30, 3) := by decide +kernel
theorem z92_161 {w : pm_H} {b0 b1 b2 b3 b4 : Option Value} {x0 : Int32} : pm_ev 92 161 [b0, b1, b2, b3, b4] [.int x0] w = pm_k 92 164 [b0, b1, b2, b3, b4] [] (pm_call 93 [.int x0] w) := pm_ns pt_92 pt_93 pt_M_6_30 (Or.inl rfl) d92_161 ⟨rfl, rfl⟩ ⟨⟨rfl, Nat.le_of_ble_eq_true rfl, Nat.le_of_ble_eq_true rfl, Nat.le_of_ble_eq_true rfl, Nat.le_of_ble_eq_true rfl⟩, rfl⟩
theorem d92_164 : decode cX6_go 164 = .ok (.istore_n 2, 1) := by decide +kernel
theorem z92_164 {st : List Value} {w : pm_H} {b0 b2 b3 b4 : Option Value} {x0 : Int32} {x9 : Int32} : pm_ev 92 164 [b0, some (.int x9), b2, b3, b4] (.int x0 :: st) w = pm_ev 92 165 [b0, some (.int x9), some (.int x0), b3, b4] st w := pm_ny pt_92 d92_164 rfl rfl rfl
theorem d92_165 : decode cX6_go 165 = .ok (.iconst 1, 1) := by decide +kernel
theorem z92_165 {st : List Value} {w : pm_H} {pl : pm_L} : pm_ev 92 165 pl st w = pm_ev 92 166 pl (.int 1 :: st) w := pm_ny pt_92 d92_165 rfl rfl rfl
theorem d92_166 : decode cX6_go 166 = .ok (.istore_n 3, 1) := by decide +kernel
theorem z92_166 {st : List Value} {w : pm_H} {b0 b1 b3 b4 : Option Value} {x0 : Int32} {x9 : Int32} : pm_ev 92 166 [b0, b1, some (.int x9), b3, b4] (.int x0 :: st) w = pm_ev 92 167 [b0, b1, some (.int x9), some (.int x0), b4] st w := pm_ny pt_92 d92_166 rfl rfl rfl
theorem d92_167 : decode cX6_go 167 = .ok (.aload_n 0, 1) := by decide +kernel
theorem z92_167 {st : List Value} {w : pm_H} {b1 b2 b3 b4 : Option Value} {x0 : Nat} : pm_ev 92 167 [some (.ref x0), b1, b2, b3, b4] st w = pm_ev 92 168 [some (.ref x0), b1, b2, b3, b4] (.ref x0 :: st) w := pm_ny pt_92 d92_167 rfl rfl rfl
theorem d92_168 : decode cX6_go 168 = .ok (.lconst 0, 1) := by decide +kernel
theorem z92_168 {st : List Value} {w : pm_H} {pl : pm_L} : pm_ev 92 168 pl st w = pm_ev 92 169 pl (.long 0 :: st) w := pm_ny pt_92 d92_168 rfl rfl rfl
theorem d92_169 : decode cX6_go 169 = .ok (.putfield 37, 3) := by decide +kernel
theorem z92_169 {st : List Value} {w : pm_H} {pl : pm_L} {x0 : Nat} {x1 : Int64} : pm_ev 92 169 pl (.long x1 :: .ref x0 :: st) w = pm_kw 92 172 pl st (pm_pf w x0 (w x0) 6 10 1 (.long x1)) := pm_np pt_92 pt_F_6_37 d92_169
theorem d92_172 : decode cX6_go 172 = .ok (.aload_n 0, 1) := by decide +kernel
theorem z92_172 {st : List Value} {w : pm_H} {b1 b2 b3 b4 : Option Value} {x0 : Nat} : pm_ev 92 172 [some (.ref x0), b1, b2, b3, b4] st w = pm_ev 92 173 [some (.ref x0), b1, b2, b3, b4] (.ref x0 :: st) w := pm_ny pt_92 d92_172 rfl rfl rfl
theorem d92_173 : decode cX6_go 173 = .ok (.iconst 0, 1) := by decide +kernel
theorem z92_173 {st : List Value} {w : pm_H} {pl : pm_L} : pm_ev 92 173 pl st w = pm_ev 92 174 pl (.int 0 :: st) w := pm_ny pt_92 d92_173 rfl rfl rfl
theorem d92_174 : decode cX6_go 174 = .ok (.putfield 41, 3) := by decide +kernel
theorem z92_174 {st : List Value} {w : pm_H} {pl : pm_L} {x0 : Nat} {x1 : Int32} : pm_ev 92 174 pl (.int x1 :: .ref x0 :: st) w = pm_kw 92 177 pl st (pm_pf w x0 (w x0) 6 7 0 (.int x1)) := pm_np pt_92 pt_F_6_41 d92_174
theorem d92_177 : decode cX6_go 177 = .ok (.aload_n 0, 1) := by decide +kernel
theorem z92_177 {st : List Value} {w : pm_H} {b1 b2 b3 b4 : Option Value} {x0 : Nat} : pm_ev 92 177 [some (.ref x0), b1, b2, b3, b4] st w = pm_ev 92 178 [some (.ref x0), b1, b2, b3, b4] (.ref x0 :: st) w := pm_ny pt_92 d92_177 rfl rfl rfl
theorem d92_178 : decode cX6_go 178 = .ok (.aload_n 0, 1) := by decide +kernel
theorem z92_178 {st : List Value} {w : pm_H} {b1 b2 b3 b4 : Option Value} {x0 : Nat} : pm_ev 92 178 [some (.ref x0), b1, b2, b3, b4] st w = pm_ev 92 179 [some (.ref x0), b1, b2, b3, b4] (.ref x0 :: st) w := pm_ny pt_92 d92_178 rfl rfl rfl
theorem d92_179 : decode cX6_go 179 = .ok (.getfield 21, 3) := by decide +kernel
theorem z92_179 {st : List Value} {w : pm_H} {pl : pm_L} {x0 : Nat} : pm_ev 92 179 pl (.ref x0 :: st) w = pm_kv 92 182 pl st w (pm_gf (w x0) 6 4) := pm_ng pt_92 pt_F_6_21 d92_179
theorem d92_182 : decode cX6_go 182 = .ok (.invokevirtual 44, 3) := by decide +kernel
theorem z92_182 {w : pm_H} {b0 b1 b2 b3 b4 : Option Value} {x0 : Int32} {x1 : Nat} : pm_ev 92 182 [b0, b1, b2, b3, b4] [.int x0, .ref x1] w = pm_k 92 185 [b0, b1, b2, b3, b4] [] (pm_vc (w x1) 6 (pm_call 95 [.ref x1, .int x0] w)) := pm_nv pt_92 pt_95 pt_M_6_44 d92_182 ⟨rfl, rfl⟩ ⟨⟨rfl, Nat.le_of_ble_eq_true rfl, Nat.le_of_ble_eq_true rfl, Nat.le_of_ble_eq_true rfl, Nat.le_of_ble_eq_true rfl⟩, rfl⟩
theorem d92_185 : decode cX6_go 185 = .ok (.invokestatic 30, 3) := by decide +kernel
theorem z92_185 {w : pm_H} {b0 b1 b2 b3 b4 : Option Value} {x0 : Int32} : pm_ev 92 185 [b0, b1, b2, b3, b4] [.int x0] w = pm_k 92 188 [b0, b1, b2, b3, b4] [] (pm_call 93 [.int x0] w) := pm_ns pt_92 pt_93 pt_M_6_30 (Or.inl rfl) d92_185 ⟨rfl, rfl⟩ ⟨⟨rfl, Nat.le_of_ble_eq_true rfl, Nat.le_of_ble_eq_true rfl, Nat.le_of_ble_eq_true rfl, Nat.le_of_ble_eq_true rfl⟩, rfl⟩
theorem d92_188 : decode cX6_go 188 = .ok (.ifCond .ne 17, 3) := by decide +kernel
theorem z92_188 {st : List Value} {w : pm_H} {pl : pm_L} {x0 : Int32} : pm_ev 92 188 pl (.int x0 :: st) w = if x0 = 0 then pm_ev 92 191 pl st w else pm_ev 92 205 pl st w := pm_nin (c := ¬ x0 = 0) pt_92 d92_188 rfl rfl rfl Iff.rfl
theorem d92_191 : decode cX6_go 191 = .ok (.aload_n 0, 1) := by decide +kernel
theorem z92_191 {st : List Value} {w : pm_H} {b1 b2 b3 b4 : Option Value} {x0 : Nat} : pm_ev 92 191 [some (.ref x0), b1, b2, b3, b4] st w = pm_ev 92 192 [some (.ref x0), b1, b2, b3, b4] (.ref x0 :: st) w := pm_ny pt_92 d92_191 rfl rfl rfl
theorem d92_192 : decode cX6_go 192 = .ok (.aload_n 0, 1) := by decide +kernel
theorem z92_192 {st : List Value} {w : pm_H} {b1 b2 b3 b4 : Option Value} {x0 : Nat} : pm_ev 92 192 [some (.ref x0), b1, b2, b3, b4] st w = pm_ev 92 193 [some (.ref x0), b1, b2, b3, b4] (.ref x0 :: st) w := pm_ny pt_92 d92_192 rfl rfl rfl
theorem d92_193 : decode cX6_go 193 = .ok (.getfield 21, 3) := by decide +kernel
theorem z92_193 {st : List Value} {w : pm_H} {pl : pm_L} {x0 : Nat} : pm_ev 92 193 pl (.ref x0 :: st) w = pm_kv 92 196 pl st w (pm_gf (w x0) 6 4) := pm_ng pt_92 pt_F_6_21 d92_193
theorem d92_196 : decode cX6_go 196 = .ok (.invokevirtual 44, 3) := by decide +kernel
theorem z92_196 {w : pm_H} {b0 b1 b2 b3 b4 : Option Value} {x0 : Int32} {x1 : Nat} : pm_ev 92 196 [b0, b1, b2, b3, b4] [.int x0, .ref x1] w = pm_k 92 199 [b0, b1, b2, b3, b4] [] (pm_vc (w x1) 6 (pm_call 95 [.ref x1, .int x0] w)) := pm_nv pt_92 pt_95 pt_M_6_44 d92_196 ⟨rfl, rfl⟩ ⟨⟨rfl, Nat.le_of_ble_eq_true rfl, Nat.le_of_ble_eq_true rfl, Nat.le_of_ble_eq_true rfl, Nat.le_of_ble_eq_true rfl⟩, rfl⟩
theorem d92_199 : decode cX6_go 199 = .ok (.invokestatic 34, 3) := by decide +kernel
theorem z92_199 {w : pm_H} {b0 b1 b2 b3 b4 : Option Value} {x0 : Int32} : pm_ev 92 199 [b0, b1, b2, b3, b4] [.int x0] w = pm_k 92 202 [b0, b1, b2, b3, b4] [] (pm_call 94 [.int x0] w) := pm_ns pt_92 pt_94 pt_M_6_34 (Or.inl rfl) d92_199 ⟨rfl, rfl⟩ ⟨⟨rfl, Nat.le_of_ble_eq_true rfl, Nat.le_of_ble_eq_true rfl, Nat.le_of_ble_eq_true rfl, Nat.le_of_ble_eq_true rfl⟩, rfl⟩
theorem d92_202 : decode cX6_go 202 = .ok (.ifCond .eq 110, 3) := by decide +kernel
theorem z92_202 {st : List Value} {w : pm_H} {pl : pm_L} {x0 : Int32} : pm_ev 92 202 pl (.int x0 :: st) w = if x0 = 0 then pm_ev 92 312 pl st w else pm_ev 92 205 pl st w := pm_nif pt_92 d92_202 rfl rfl rfl
theorem d92_205 : decode cX6_go 205 = .ok (.aload_n 0, 1) := by decide +kernel
theorem z92_205 {st : List Value} {w : pm_H} {b1 b2 b3 b4 : Option Value} {x0 : Nat} : pm_ev 92 205 [some (.ref x0), b1, b2, b3, b4] st w = pm_ev 92 206 [some (.ref x0), b1, b2, b3, b4] (.ref x0 :: st) w := pm_ny pt_92 d92_205 rfl rfl rfl
theorem d92_206 : decode cX6_go 206 = .ok (.getfield 7, 3) := by decide +kernel
theorem z92_206 {st : List Value} {w : pm_H} {pl : pm_L} {x0 : Nat} : pm_ev 92 206 pl (.ref x0 :: st) w = pm_kv 92 209 pl st w (pm_gf (w x0) 6 1) := pm_ng pt_92 pt_F_6_7 d92_206
theorem d92_209 : decode cX6_go 209 = .ok (.aload_n 0, 1) := by decide +kernel
theorem z92_209 {st : List Value} {w : pm_H} {b1 b2 b3 b4 : Option Value} {x0 : Nat} : pm_ev 92 209 [some (.ref x0), b1, b2, b3, b4] st w = pm_ev 92 210 [some (.ref x0), b1, b2, b3, b4] (.ref x0 :: st) w := pm_ny pt_92 d92_209 rfl rfl rfl
theorem d92_210 : decode cX6_go 210 = .ok (.getfield 21, 3) := by decide +kernel
theorem z92_210 {st : List Value} {w : pm_H} {pl : pm_L} {x0 : Nat} : pm_ev 92 210 pl (.ref x0 :: st) w = pm_kv 92 213 pl st w (pm_gf (w x0) 6 4) := pm_ng pt_92 pt_F_6_21 d92_210
theorem d92_213 : decode cX6_go 213 = .ok (.iaload, 1) := by decide +kernel
theorem z92_213 {st : List Value} {w : pm_H} {pl : pm_L} {x0 : Nat} {x1 : Int32} : pm_ev 92 213 pl (.int x1 :: .ref x0 :: st) w = pm_kv 92 214 pl st w (pm_ia (w x0) 0 x1) := pm_nia pt_92 d92_213
theorem d92_214 : decode cX6_go 214 = .ok (.istore 4, 2) := by decide +kernel
theorem z92_214 {st : List Value} {w : pm_H} {b0 b1 b2 b4 : Option Value} {x0 : Int32} {x9 : Int32} : pm_ev 92 214 [b0, b1, b2, some (.int x9), b4] (.int x0 :: st) w = pm_ev 92 216 [b0, b1, b2, some (.int x9), some (.int x0)] st w := pm_ny pt_92 d92_214 rfl rfl rfl
theorem d92_216 : decode cX6_go 216 = .ok (.iload_n 3, 1) := by decide +kernel
theorem z92_216 {st : List Value} {w : pm_H} {b0 b1 b2 b4 : Option Value} {x0 : Int32} : pm_ev 92 216 [b0, b1, b2, some (.int x0), b4] st w = pm_ev 92 217 [b0, b1, b2, some (.int x0), b4] (.int x0 :: st) w := pm_ny pt_92 d92_216 rfl rfl rfl
theorem d92_217 : decode cX6_go 217 = .ok (.ifCond .eq 16, 3) := by decide +kernel
theorem z92_217 {st : List Value} {w : pm_H} {pl : pm_L} {x0 : Int32} : pm_ev 92 217 pl (.int x0 :: st) w = if x0 = 0 then pm_ev 92 233 pl st w else pm_ev 92 220 pl st w := pm_nif pt_92 d92_217 rfl rfl rfl
theorem d92_220 : decode cX6_go 220 = .ok (.iload 4, 2) := by decide +kernel
theorem z92_220 {st : List Value} {w : pm_H} {b0 b1 b2 b3 : Option Value} {x0 : Int32} : pm_ev 92 220 [b0, b1, b2, b3, some (.int x0)] st w = pm_ev 92 222 [b0, b1, b2, b3, some (.int x0)] (.int x0 :: st) w := pm_ny pt_92 d92_220 rfl rfl rfl
theorem d92_222 : decode cX6_go 222 = .ok (.invokestatic 30, 3) := by decide +kernel
theorem z92_222 {w : pm_H} {b0 b1 b2 b3 b4 : Option Value} {x0 : Int32} : pm_ev 92 222 [b0, b1, b2, b3, b4] [.int x0] w = pm_k 92 225 [b0, b1, b2, b3, b4] [] (pm_call 93 [.int x0] w) := pm_ns pt_92 pt_93 pt_M_6_30 (Or.inl rfl) d92_222 ⟨rfl, rfl⟩ ⟨⟨rfl, Nat.le_of_ble_eq_true rfl, Nat.le_of_ble_eq_true rfl, Nat.le_of_ble_eq_true rfl, Nat.le_of_ble_eq_true rfl⟩, rfl⟩
theorem d92_225 : decode cX6_go 225 = .ok (.iload_n 2, 1) := by decide +kernel
theorem z92_225 {st : List Value} {w : pm_H} {b0 b1 b3 b4 : Option Value} {x0 : Int32} : pm_ev 92 225 [b0, b1, some (.int x0), b3, b4] st w = pm_ev 92 226 [b0, b1, some (.int x0), b3, b4] (.int x0 :: st) w := pm_ny pt_92 d92_225 rfl rfl rfl
theorem d92_226 : decode cX6_go 226 = .ok (.if_icmp .ne 7, 3) := by decide +kernel
theorem z92_226 {st : List Value} {w : pm_H} {pl : pm_L} {x0 x1 : Int32} : pm_ev 92 226 pl (.int x1 :: .int x0 :: st) w = if x0 = x1 then pm_ev 92 229 pl st w else pm_ev 92 233 pl st w := pm_nin (c := ¬ x0 = x1) pt_92 d92_226 rfl rfl rfl Iff.rfl
theorem d92_229 : decode cX6_go 229 = .ok (.iconst 1, 1) := by decide +kernel
theorem z92_229 {st : List Value} {w : pm_H} {pl : pm_L} : pm_ev 92 229 pl st w = pm_ev 92 230 pl (.int 1 :: st) w := pm_ny pt_92 d92_229 rfl rfl rfl
theorem d92_230 : decode cX6_go 230 = .ok (.goto 4, 3) := by decide +kernel
theorem z92_230 {st : List Value} {w : pm_H} {pl : pm_L} : pm_ev 92 230 pl st w = pm_ev 92 234 pl st w := pm_ny pt_92 d92_230 rfl rfl rfl
theorem d92_233 : decode cX6_go 233 = .ok (.iconst 0, 1) := by decide +kernel
theorem z92_233 {st : List Value} {w : pm_H} {pl : pm_L} : pm_ev 92 233 pl st w = pm_ev 92 234 pl (.int 0 :: st) w := pm_ny pt_92 d92_233 rfl rfl rfl
theorem d92_234 : decode cX6_go 234 = .ok (.istore_n 3, 1) := by decide +kernel
theorem z92_234 {st : List Value} {w : pm_H} {b0 b1 b3 b4 : Option Value} {x0 : Int32} {x9 : Int32} : pm_ev 92 234 [b0, b1, some (.int x9), b3, b4] (.int x0 :: st) w = pm_ev 92 235 [b0, b1, some (.int x9), some (.int x0), b4] st w := pm_ny pt_92 d92_234 rfl rfl rfl
theorem d92_235 : decode cX6_go 235 = .ok (.aload_n 0, 1) := by decide +kernel
theorem z92_235 {st : List Value} {w : pm_H} {b1 b2 b3 b4 : Option Value} {x0 : Nat} : pm_ev 92 235 [some (.ref x0), b1, b2, b3, b4] st w = pm_ev 92 236 [some (.ref x0), b1, b2, b3, b4] (.ref x0 :: st) w := pm_ny pt_92 d92_235 rfl rfl rfl
theorem d92_236 : decode cX6_go 236 = .ok (.getfield 21, 3) := by decide +kernel
theorem z92_236 {st : List Value} {w : pm_H} {pl : pm_L} {x0 : Nat} : pm_ev 92 236 pl (.ref x0 :: st) w = pm_kv 92 239 pl st w (pm_gf (w x0) 6 4) := pm_ng pt_92 pt_F_6_21 d92_236
theorem d92_239 : decode cX6_go 239 = .ok (.aload_n 0, 1) := by decide +kernel
theorem z92_239 {st : List Value} {w : pm_H} {b1 b2 b3 b4 : Option Value} {x0 : Nat} : pm_ev 92 239 [some (.ref x0), b1, b2, b3, b4] st w = pm_ev 92 240 [some (.ref x0), b1, b2, b3, b4] (.ref x0 :: st) w := pm_ny pt_92 d92_239 rfl rfl rfl
theorem d92_240 : decode cX6_go 240 = .ok (.getfield 24, 3) := by decide +kernel
theorem z92_240 {st : List Value} {w : pm_H} {pl : pm_L} {x0 : Nat} : pm_ev 92 240 pl (.ref x0 :: st) w = pm_kv 92 243 pl st w (pm_gf (w x0) 6 5) := pm_ng pt_92 pt_F_6_24 d92_240
theorem d92_243 : decode cX6_go 243 = .ok (.isub, 1) := by decide +kernel
theorem z92_243 {st : List Value} {w : pm_H} {pl : pm_L} {x0 x1 : Int32} : pm_ev 92 243 pl (.int x1 :: .int x0 :: st) w = pm_ev 92 244 pl (.int (x0 - x1) :: st) w := pm_ny pt_92 d92_243 rfl rfl rfl
theorem d92_244 : decode cX6_go 244 = .ok (.bipush 8, 2) := by decide +kernel
theorem z92_244 {st : List Value} {w : pm_H} {pl : pm_L} : pm_ev 92 244 pl st w = pm_ev 92 246 pl (.int 8 :: st) w := pm_ny pt_92 d92_244 rfl rfl rfl
theorem d92_246 : decode cX6_go 246 = .ok (.if_icmp .ge 23, 3) := by decide +kernel
theorem z92_246 {st : List Value} {w : pm_H} {pl : pm_L} {x0 x1 : Int32} : pm_ev 92 246 pl (.int x1 :: .int x0 :: st) w = if x0 < x1 then pm_ev 92 249 pl st w else pm_ev 92 269 pl st w := pm_nin (c := x1 ≤ x0) pt_92 d92_246 rfl rfl rfl pm_ge
theorem d92_249 : decode cX6_go 249 = .ok (.aload_n 0, 1) := by decide +kernel
theorem z92_249 {st : List Value} {w : pm_H} {b1 b2 b3 b4 : Option Value} {x0 : Nat} : pm_ev 92 249 [some (.ref x0), b1, b2, b3, b4] st w = pm_ev 92 250 [some (.ref x0), b1, b2, b3, b4] (.ref x0 :: st) w := pm_ny pt_92 d92_249 rfl rfl rfl
theorem d92_250 : decode cX6_go 250 = .ok (.ldc2_w 48, 3) := by decide +kernel
theorem z92_250 {st : List Value} {w : pm_H} {pl : pm_L} : pm_ev 92 250 pl st w = pm_ev 92 253 pl (.long (27) :: st) w := pm_nk2 pt_92 pt_K_6_48 rfl d92_250
theorem d92_253 : decode cX6_go 253 = .ok (.aload_n 0, 1) := by decide +kernel
theorem z92_253 {st : List Value} {w : pm_H} {b1 b2 b3 b4 : Option Value} {x0 : Nat} : pm_ev 92 253 [some (.ref x0), b1, b2, b3, b4] st w = pm_ev 92 254 [some (.ref x0), b1, b2, b3, b4] (.ref x0 :: st) w := pm_ny pt_92 d92_253 rfl rfl rfl
theorem d92_254 : decode cX6_go 254 = .ok (.getfield 37, 3) := by decide +kernel
theorem z92_254 {st : List Value} {w : pm_H} {pl : pm_L} {x0 : Nat} : pm_ev 92 254 pl (.ref x0 :: st) w = pm_kv 92 257 pl st w (pm_gf (w x0) 6 10) := pm_ng pt_92 pt_F_6_37 d92_254
theorem d92_257 : decode cX6_go 257 = .ok (.lmul, 1) := by decide +kernel
theorem z92_257 {st : List Value} {w : pm_H} {pl : pm_L} {x0 x1 : Int64} : pm_ev 92 257 pl (.long x1 :: .long x0 :: st) w = pm_ev 92 258 pl (.long (x0 * x1) :: st) w := pm_ny pt_92 d92_257 rfl rfl rfl
theorem d92_258 : decode cX6_go 258 = .ok (.iload 4, 2) := by decide +kernel
theorem z92_258 {st : List Value} {w : pm_H} {b0 b1 b2 b3 : Option Value} {x0 : Int32} : pm_ev 92 258 [b0, b1, b2, b3, some (.int x0)] st w = pm_ev 92 260 [b0, b1, b2, b3, some (.int x0)] (.int x0 :: st) w := pm_ny pt_92 d92_258 rfl rfl rfl
theorem d92_260 : decode cX6_go 260 = .ok (.i2l, 1) := by decide +kernel
theorem z92_260 {st : List Value} {w : pm_H} {pl : pm_L} {x0 : Int32} : pm_ev 92 260 pl (.int x0 :: st) w = pm_ev 92 261 pl (.long x0.toInt64 :: st) w := pm_ny pt_92 d92_260 rfl rfl rfl
theorem d92_261 : decode cX6_go 261 = .ok (.ladd, 1) := by decide +kernel
theorem z92_261 {st : List Value} {w : pm_H} {pl : pm_L} {x0 x1 : Int64} : pm_ev 92 261 pl (.long x1 :: .long x0 :: st) w = pm_ev 92 262 pl (.long (x0 + x1) :: st) w := pm_ny pt_92 d92_261 rfl rfl rfl
theorem d92_262 : decode cX6_go 262 = .ok (.ldc2_w 50, 3) := by decide +kernel
theorem z92_262 {st : List Value} {w : pm_H} {pl : pm_L} : pm_ev 92 262 pl st w = pm_ev 92 265 pl (.long (96) :: st) w := pm_nk2 pt_92 pt_K_6_50 rfl d92_262
theorem d92_265 : decode cX6_go 265 = .ok (.lsub, 1) := by decide +kernel
theorem z92_265 {st : List Value} {w : pm_H} {pl : pm_L} {x0 x1 : Int64} : pm_ev 92 265 pl (.long x1 :: .long x0 :: st) w = pm_ev 92 266 pl (.long (x0 - x1) :: st) w := pm_ny pt_92 d92_265 rfl rfl rfl
theorem d92_266 : decode cX6_go 266 = .ok (.putfield 37, 3) := by decide +kernel
theorem z92_266 {st : List Value} {w : pm_H} {pl : pm_L} {x0 : Nat} {x1 : Int64} : pm_ev 92 266 pl (.long x1 :: .ref x0 :: st) w = pm_kw 92 269 pl st (pm_pf w x0 (w x0) 6 10 1 (.long x1)) := pm_np pt_92 pt_F_6_37 d92_266
theorem d92_269 : decode cX6_go 269 = .ok (.aload_n 0, 1) := by decide +kernel
theorem z92_269 {st : List Value} {w : pm_H} {b1 b2 b3 b4 : Option Value} {x0 : Nat} : pm_ev 92 269 [some (.ref x0), b1, b2, b3, b4] st w = pm_ev 92 270 [some (.ref x0), b1, b2, b3, b4] (.ref x0 :: st) w := pm_ny pt_92 d92_269 rfl rfl rfl
theorem d92_270 : decode cX6_go 270 = .ok (.getfield 21, 3) := by decide +kernel
theorem z92_270 {st : List Value} {w : pm_H} {pl : pm_L} {x0 : Nat} : pm_ev 92 270 pl (.ref x0 :: st) w = pm_kv 92 273 pl st w (pm_gf (w x0) 6 4) := pm_ng pt_92 pt_F_6_21 d92_270
theorem d92_273 : decode cX6_go 273 = .ok (.aload_n 0, 1) := by decide +kernel
theorem z92_273 {st : List Value} {w : pm_H} {b1 b2 b3 b4 : Option Value} {x0 : Nat} : pm_ev 92 273 [some (.ref x0), b1, b2, b3, b4] st w = pm_ev 92 274 [some (.ref x0), b1, b2, b3, b4] (.ref x0 :: st) w := pm_ny pt_92 d92_273 rfl rfl rfl
theorem d92_274 : decode cX6_go 274 = .ok (.getfield 24, 3) := by decide +kernel
theorem z92_274 {st : List Value} {w : pm_H} {pl : pm_L} {x0 : Nat} : pm_ev 92 274 pl (.ref x0 :: st) w = pm_kv 92 277 pl st w (pm_gf (w x0) 6 5) := pm_ng pt_92 pt_F_6_24 d92_274
theorem d92_277 : decode cX6_go 277 = .ok (.isub, 1) := by decide +kernel
theorem z92_277 {st : List Value} {w : pm_H} {pl : pm_L} {x0 x1 : Int32} : pm_ev 92 277 pl (.int x1 :: .int x0 :: st) w = pm_ev 92 278 pl (.int (x0 - x1) :: st) w := pm_ny pt_92 d92_277 rfl rfl rfl
theorem d92_278 : decode cX6_go 278 = .ok (.iconst 5, 1) := by decide +kernel
theorem z92_278 {st : List Value} {w : pm_H} {pl : pm_L} : pm_ev 92 278 pl st w = pm_ev 92 279 pl (.int 5 :: st) w := pm_ny pt_92 d92_278 rfl rfl rfl
theorem d92_279 : decode cX6_go 279 = .ok (.if_icmp .ge 20, 3) := by decide +kernel
theorem z92_279 {st : List Value} {w : pm_H} {pl : pm_L} {x0 x1 : Int32} : pm_ev 92 279 pl (.int x1 :: .int x0 :: st) w = if x0 < x1 then pm_ev 92 282 pl st w else pm_ev 92 299 pl st w := pm_nin (c := x1 ≤ x0) pt_92 d92_279 rfl rfl rfl pm_ge
theorem d92_282 : decode cX6_go 282 = .ok (.aload_n 0, 1) := by decide +kernel
theorem z92_282 {st : List Value} {w : pm_H} {b1 b2 b3 b4 : Option Value} {x0 : Nat} : pm_ev 92 282 [some (.ref x0), b1, b2, b3, b4] st w = pm_ev 92 283 [some (.ref x0), b1, b2, b3, b4] (.ref x0 :: st) w := pm_ny pt_92 d92_282 rfl rfl rfl
theorem d92_283 : decode cX6_go 283 = .ok (.bipush 10, 2) := by decide +kernel
theorem z92_283 {st : List Value} {w : pm_H} {pl : pm_L} : pm_ev 92 283 pl st w = pm_ev 92 285 pl (.int 10 :: st) w := pm_ny pt_92 d92_283 rfl rfl rfl
theorem d92_285 : decode cX6_go 285 = .ok (.aload_n 0, 1) := by decide +kernel
theorem z92_285 {st : List Value} {w : pm_H} {b1 b2 b3 b4 : Option Value} {x0 : Nat} : pm_ev 92 285 [some (.ref x0), b1, b2, b3, b4] st w = pm_ev 92 286 [some (.ref x0), b1, b2, b3, b4] (.ref x0 :: st) w := pm_ny pt_92 d92_285 rfl rfl rfl
theorem d92_286 : decode cX6_go 286 = .ok (.getfield 41, 3) := by decide +kernel
theorem z92_286 {st : List Value} {w : pm_H} {pl : pm_L} {x0 : Nat} : pm_ev 92 286 pl (.ref x0 :: st) w = pm_kv 92 289 pl st w (pm_gf (w x0) 6 7) := pm_ng pt_92 pt_F_6_41 d92_286
theorem d92_289 : decode cX6_go 289 = .ok (.imul, 1) := by decide +kernel
theorem z92_289 {st : List Value} {w : pm_H} {pl : pm_L} {x0 x1 : Int32} : pm_ev 92 289 pl (.int x1 :: .int x0 :: st) w = pm_ev 92 290 pl (.int (x0 * x1) :: st) w := pm_ny pt_92 d92_289 rfl rfl rfl
theorem d92_290 : decode cX6_go 290 = .ok (.iload 4, 2) := by decide +kernel
theorem z92_290 {st : List Value} {w : pm_H} {b0 b1 b2 b3 : Option Value} {x0 : Int32} : pm_ev 92 290 [b0, b1, b2, b3, some (.int x0)] st w = pm_ev 92 292 [b0, b1, b2, b3, some (.int x0)] (.int x0 :: st) w := pm_ny pt_92 d92_290 rfl rfl rfl
theorem d92_292 : decode cX6_go 292 = .ok (.iadd, 1) := by decide +kernel
theorem z92_292 {st : List Value} {w : pm_H} {pl : pm_L} {x0 x1 : Int32} : pm_ev 92 292 pl (.int x1 :: .int x0 :: st) w = pm_ev 92 293 pl (.int (x0 + x1) :: st) w := pm_ny pt_92 d92_292 rfl rfl rfl
theorem d92_293 : decode cX6_go 293 = .ok (.bipush 48, 2) := by decide +kernel
theorem z92_293 {st : List Value} {w : pm_H} {pl : pm_L} : pm_ev 92 293 pl st w = pm_ev 92 295 pl (.int 48 :: st) w := pm_ny pt_92 d92_293 rfl rfl rfl
theorem d92_295 : decode cX6_go 295 = .ok (.isub, 1) := by decide +kernel
theorem z92_295 {st : List Value} {w : pm_H} {pl : pm_L} {x0 x1 : Int32} : pm_ev 92 295 pl (.int x1 :: .int x0 :: st) w = pm_ev 92 296 pl (.int (x0 - x1) :: st) w := pm_ny pt_92 d92_295 rfl rfl rfl
theorem d92_296 : decode cX6_go 296 = .ok (.putfield 41, 3) := by decide +kernel
theorem z92_296 {st : List Value} {w : pm_H} {pl : pm_L} {x0 : Nat} {x1 : Int32} : pm_ev 92 296 pl (.int x1 :: .ref x0 :: st) w = pm_kw 92 299 pl st (pm_pf w x0 (w x0) 6 7 0 (.int x1)) := pm_np pt_92 pt_F_6_41 d92_296
theorem d92_299 : decode cX6_go 299 = .ok (.aload_n 0, 1) := by decide +kernel
theorem z92_299 {st : List Value} {w : pm_H} {b1 b2 b3 b4 : Option Value} {x0 : Nat} : pm_ev 92 299 [some (.ref x0), b1, b2, b3, b4] st w = pm_ev 92 300 [some (.ref x0), b1, b2, b3, b4] (.ref x0 :: st) w := pm_ny pt_92 d92_299 rfl rfl rfl
theorem d92_300 : decode cX6_go 300 = .ok (.dup, 1) := by decide +kernel
theorem z92_300 {st : List Value} {w : pm_H} {pl : pm_L} {x0 : Nat} : pm_ev 92 300 pl (.ref x0 :: st) w = pm_ev 92 301 pl (.ref x0 :: .ref x0 :: st) w := pm_ny pt_92 d92_300 rfl rfl rfl
theorem d92_301 : decode cX6_go 301 = .ok (.getfield 21, 3) := by decide +kernel
theorem z92_301 {st : List Value} {w : pm_H} {pl : pm_L} {x0 : Nat} : pm_ev 92 301 pl (.ref x0 :: st) w = pm_kv 92 304 pl st w (pm_gf (w x0) 6 4) := pm_ng pt_92 pt_F_6_21 d92_301
theorem d92_304 : decode cX6_go 304 = .ok (.iconst 1, 1) := by decide +kernel
theorem z92_304 {st : List Value} {w : pm_H} {pl : pm_L} : pm_ev 92 304 pl st w = pm_ev 92 305 pl (.int 1 :: st) w := pm_ny pt_92 d92_304 rfl rfl rfl
theorem d92_305 : decode cX6_go 305 = .ok (.iadd, 1) := by decide +kernel
theorem z92_305 {st : List Value} {w : pm_H} {pl : pm_L} {x0 x1 : Int32} : pm_ev 92 305 pl (.int x1 :: .int x0 :: st) w = pm_ev 92 306 pl (.int (x0 + x1) :: st) w := pm_ny pt_92 d92_305 rfl rfl rfl
theorem d92_306 : decode cX6_go 306 = .ok (.putfield 21, 3) := by decide +kernel
theorem z92_306 {st : List Value} {w : pm_H} {pl : pm_L} {x0 : Nat} {x1 : Int32} : pm_ev 92 306 pl (.int x1 :: .ref x0 :: st) w = pm_kw 92 309 pl st (pm_pf w x0 (w x0) 6 4 0 (.int x1)) := pm_np pt_92 pt_F_6_21 d92_306
theorem d92_309 : decode cX6_go 309 = .ok (.goto (-132), 3) := by decide +kernel
theorem z92_309 {st : List Value} {w : pm_H} {pl : pm_L} : pm_ev 92 309 pl st w = pm_ev 92 177 pl st w := pm_ny pt_92 d92_309 rfl rfl rfl
theorem d92_312 : decode cX6_go 312 = .ok (.aload_n 0, 1) := by decide +kernel
theorem z92_312 {st : List Value} {w : pm_H} {b1 b2 b3 b4 : Option Value} {x0 : Nat} : pm_ev 92 312 [some (.ref x0), b1, b2, b3, b4] st w = pm_ev 92 313 [some (.ref x0), b1, b2, b3, b4] (.ref x0 :: st) w := pm_ny pt_92 d92_312 rfl rfl rfl
theorem d92_313 : decode cX6_go 313 = .ok (.iload_n 3, 1) := by decide +kernel
theorem z92_313 {st : List Value} {w : pm_H} {b0 b1 b2 b4 : Option Value} {x0 : Int32} : pm_ev 92 313 [b0, b1, b2, some (.int x0), b4] st w = pm_ev 92 314 [b0, b1, b2, some (.int x0), b4] (.int x0 :: st) w := pm_ny pt_92 d92_313 rfl rfl rfl
theorem d92_314 : decode cX6_go 314 = .ok (.ifCond .eq 20, 3) := by decide +kernel
theorem z92_314 {st : List Value} {w : pm_H} {pl : pm_L} {x0 : Int32} : pm_ev 92 314 pl (.int x0 :: st) w = if x0 = 0 then pm_ev 92 334 pl st w else pm_ev 92 317 pl st w := pm_nif pt_92 d92_314 rfl rfl rfl
theorem d92_317 : decode cX6_go 317 = .ok (.iload_n 2, 1) := by decide +kernel
theorem z92_317 {st : List Value} {w : pm_H} {b0 b1 b3 b4 : Option Value} {x0 : Int32} : pm_ev 92 317 [b0, b1, some (.int x0), b3, b4] st w = pm_ev 92 318 [b0, b1, some (.int x0), b3, b4] (.int x0 :: st) w := pm_ny pt_92 d92_317 rfl rfl rfl
theorem d92_318 : decode cX6_go 318 = .ok (.ifCond .ne 20, 3) := by decide +kernel
theorem z92_318 {st : List Value} {w : pm_H} {pl : pm_L} {x0 : Int32} : pm_ev 92 318 pl (.int x0 :: st) w = if x0 = 0 then pm_ev 92 321 pl st w else pm_ev 92 338 pl st w := pm_nin (c := ¬ x0 = 0) pt_92 d92_318 rfl rfl rfl Iff.rfl
theorem d92_321 : decode cX6_go 321 = .ok (.aload_n 0, 1) := by decide +kernel
theorem z92_321 {st : List Value} {w : pm_H} {b1 b2 b3 b4 : Option Value} {x0 : Nat} : pm_ev 92 321 [some (.ref x0), b1, b2, b3, b4] st w = pm_ev 92 322 [some (.ref x0), b1, b2, b3, b4] (.ref x0 :: st) w := pm_ny pt_92 d92_321 rfl rfl rfl
theorem d92_322 : decode cX6_go 322 = .ok (.getfield 21, 3) := by decide +kernel
theorem z92_322 {st : List Value} {w : pm_H} {pl : pm_L} {x0 : Nat} : pm_ev 92 322 pl (.ref x0 :: st) w = pm_kv 92 325 pl st w (pm_gf (w x0) 6 4) := pm_ng pt_92 pt_F_6_21 d92_322
theorem d92_325 : decode cX6_go 325 = .ok (.aload_n 0, 1) := by decide +kernel
theorem z92_325 {st : List Value} {w : pm_H} {b1 b2 b3 b4 : Option Value} {x0 : Nat} : pm_ev 92 325 [some (.ref x0), b1, b2, b3, b4] st w = pm_ev 92 326 [some (.ref x0), b1, b2, b3, b4] (.ref x0 :: st) w := pm_ny pt_92 d92_325 rfl rfl rfl
theorem d92_326 : decode cX6_go 326 = .ok (.getfield 24, 3) := by decide +kernel
theorem z92_326 {st : List Value} {w : pm_H} {pl : pm_L} {x0 : Nat} : pm_ev 92 326 pl (.ref x0 :: st) w = pm_kv 92 329 pl st w (pm_gf (w x0) 6 5) := pm_ng pt_92 pt_F_6_24 d92_326
theorem d92_329 : decode cX6_go 329 = .ok (.isub, 1) := by decide +kernel
theorem z92_329 {st : List Value} {w : pm_H} {pl : pm_L} {x0 x1 : Int32} : pm_ev 92 329 pl (.int x1 :: .int x0 :: st) w = pm_ev 92 330 pl (.int (x0 - x1) :: st) w := pm_ny pt_92 d92_329 rfl rfl rfl
theorem d92_330 : decode cX6_go 330 = .ok (.iconst 5, 1) := by decide +kernel
theorem z92_330 {st : List Value} {w : pm_H} {pl : pm_L} : pm_ev 92 330 pl st w = pm_ev 92 331 pl (.int 5 :: st) w := pm_ny pt_92 d92_330 rfl rfl rfl
theorem d92_331 : decode cX6_go 331 = .ok (.if_icmp .le 7, 3) := by decide +kernel
theorem z92_331 {st : List Value} {w : pm_H} {pl : pm_L} {x0 x1 : Int32} : pm_ev 92 331 pl (.int x1 :: .int x0 :: st) w = if x1 < x0 then pm_ev 92 334 pl st w else pm_ev 92 338 pl st w := pm_nin (c := x0 ≤ x1) pt_92 d92_331 rfl rfl rfl pm_ge
theorem d92_334 : decode cX6_go 334 = .ok (.iconst 1, 1) := by decide +kernel
theorem z92_334 {st : List Value} {w : pm_H} {pl : pm_L} : pm_ev 92 334 pl st w = pm_ev 92 335 pl (.int 1 :: st) w := pm_ny pt_92 d92_334 rfl rfl rfl
theorem d92_335 : decode cX6_go 335 = .ok (.goto 12, 3) := by decide +kernel
theorem z92_335 {st : List Value} {w : pm_H} {pl : pm_L} : pm_ev 92 335 pl st w = pm_ev 92 347 pl st w := pm_ny pt_92 d92_335 rfl rfl rfl
theorem d92_338 : decode cX6_go 338 = .ok (.iload_n 2, 1) := by decide +kernel
theorem z92_338 {st : List Value} {w : pm_H} {b0 b1 b3 b4 : Option Value} {x0 : Int32} : pm_ev 92 338 [b0, b1, some (.int x0), b3, b4] st w = pm_ev 92 339 [b0, b1, some (.int x0), b3, b4] (.int x0 :: st) w := pm_ny pt_92 d92_338 rfl rfl rfl
theorem d92_339 : decode cX6_go 339 = .ok (.ifCond .eq 7, 3) := by decide +kernel
theorem z92_339 {st : List Value} {w : pm_H} {pl : pm_L} {x0 : Int32} : pm_ev 92 339 pl (.int x0 :: st) w = if x0 = 0 then pm_ev 92 346 pl st w else pm_ev 92 342 pl st w := pm_nif pt_92 d92_339 rfl rfl rfl
theorem d92_342 : decode cX6_go 342 = .ok (.iconst 2, 1) := by decide +kernel
theorem z92_342 {st : List Value} {w : pm_H} {pl : pm_L} : pm_ev 92 342 pl st w = pm_ev 92 343 pl (.int 2 :: st) w := pm_ny pt_92 d92_342 rfl rfl rfl
theorem d92_343 : decode cX6_go 343 = .ok (.goto 4, 3) := by decide +kernel
theorem z92_343 {st : List Value} {w : pm_H} {pl : pm_L} : pm_ev 92 343 pl st w = pm_ev 92 347 pl st w := pm_ny pt_92 d92_343 rfl rfl rfl
theorem d92_346 : decode cX6_go 346 = .ok (.iconst 3, 1) := by decide +kernel
theorem z92_346 {st : List Value} {w : pm_H} {pl : pm_L} : pm_ev 92 346 pl st w = pm_ev 92 347 pl (.int 3 :: st) w := pm_ny pt_92 d92_346 rfl rfl rfl
theorem d92_347 : decode cX6_go 347 = .ok (.putfield 27, 3) := by decide +kernel
theorem z92_347 {st : List Value} {w : pm_H} {pl : pm_L} {x0 : Nat} {x1 : Int32} : pm_ev 92 347 pl (.int x1 :: .ref x0 :: st) w = pm_kw 92 350 pl st (pm_pf w x0 (w x0) 6 6 0 (.int x1)) := pm_np pt_92 pt_F_6_27 d92_347
theorem d92_350 : decode cX6_go 350 = .ok (.return_, 1) := by decide +kernel
theorem z92_350 {w : pm_H} {pl : pm_L} : pm_ev 92 350 pl [] w = some (none, w) := pm_nr pt_92 d92_350 rfl
theorem d93_0 : decode cX6_isLetter 0 = .ok (.iload_n 0, 1) := by decide +kernel
theorem z93_0 {st : List Value} {w : pm_H}  {x0 : Int32} : pm_ev 93 0 [some (.int x0)] st w = pm_ev 93 1 [some (.int x0)] (.int x0 :: st) w := pm_ny pt_93 d93_0 rfl rfl rfl
theorem d93_1 : decode cX6_isLetter 1 = .ok (.bipush 97, 2) := by decide +kernel
theorem z93_1 {st : List Value} {w : pm_H} {pl : pm_L} : pm_ev 93 1 pl st w = pm_ev 93 3 pl (.int 97 :: st) w := pm_ny pt_93 d93_1 rfl rfl rfl
theorem d93_3 : decode cX6_isLetter 3 = .ok (.if_icmp .lt 13, 3) := by decide +kernel
theorem z93_3 {st : List Value} {w : pm_H} {pl : pm_L} {x0 x1 : Int32} : pm_ev 93 3 pl (.int x1 :: .int x0 :: st) w = if x0 < x1 then pm_ev 93 16 pl st w else pm_ev 93 6 pl st w := pm_nif pt_93 d93_3 rfl rfl rfl
theorem d93_6 : decode cX6_isLetter 6 = .ok (.iload_n 0, 1) := by decide +kernel
theorem z93_6 {st : List Value} {w : pm_H}  {x0 : Int32} : pm_ev 93 6 [some (.int x0)] st w = pm_ev 93 7 [some (.int x0)] (.int x0 :: st) w := pm_ny pt_93 d93_6 rfl rfl rfl
theorem d93_7 : decode cX6_isLetter 7 = .ok (.bipush 122, 2) := by decide +kernel
theorem z93_7 {st : List Value} {w : pm_H} {pl : pm_L} : pm_ev 93 7 pl st w = pm_ev 93 9 pl (.int 122 :: st) w := pm_ny pt_93 d93_7 rfl rfl rfl
theorem d93_9 : decode cX6_isLetter 9 = .ok (.if_icmp .gt 7, 3) := by decide +kernel
theorem z93_9 {st : List Value} {w : pm_H} {pl : pm_L} {x0 x1 : Int32} : pm_ev 93 9 pl (.int x1 :: .int x0 :: st) w = if x1 < x0 then pm_ev 93 16 pl st w else pm_ev 93 12 pl st w := pm_nif pt_93 d93_9 rfl rfl rfl
theorem d93_12 : decode cX6_isLetter 12 = .ok (.iconst 1, 1) := by decide +kernel
theorem z93_12 {st : List Value} {w : pm_H} {pl : pm_L} : pm_ev 93 12 pl st w = pm_ev 93 13 pl (.int 1 :: st) w := pm_ny pt_93 d93_12 rfl rfl rfl
theorem d93_13 : decode cX6_isLetter 13 = .ok (.goto 4, 3) := by decide +kernel
theorem z93_13 {st : List Value} {w : pm_H} {pl : pm_L} : pm_ev 93 13 pl st w = pm_ev 93 17 pl st w := pm_ny pt_93 d93_13 rfl rfl rfl
theorem d93_16 : decode cX6_isLetter 16 = .ok (.iconst 0, 1) := by decide +kernel
theorem z93_16 {st : List Value} {w : pm_H} {pl : pm_L} : pm_ev 93 16 pl st w = pm_ev 93 17 pl (.int 0 :: st) w := pm_ny pt_93 d93_16 rfl rfl rfl
theorem d93_17 : decode cX6_isLetter 17 = .ok (.ireturn, 1) := by decide +kernel
theorem z93_17 {w : pm_H} {pl : pm_L} {x0 : Int32} : pm_ev 93 17 pl [.int x0] w = pm_zr x0 w := pm_nz pt_93 d93_17
theorem d94_0 : decode cX6_isDigit 0 = .ok (.iload_n 0, 1) := by decide +kernel
theorem z94_0 {st : List Value} {w : pm_H}  {x0 : Int32} : pm_ev 94 0 [some (.int x0)] st w = pm_ev 94 1 [some (.int x0)] (.int x0 :: st) w := pm_ny pt_94 d94_0 rfl rfl rfl
theorem d94_1 : decode cX6_isDigit 1 = .ok (.bipush 48, 2) := by decide +kernel
theorem z94_1 {st : List Value} {w : pm_H} {pl : pm_L} : pm_ev 94 1 pl st w = pm_ev 94 3 pl (.int 48 :: st) w := pm_ny pt_94 d94_1 rfl rfl rfl
theorem d94_3 : decode cX6_isDigit 3 = .ok (.if_icmp .lt 13, 3) := by decide +kernel
theorem z94_3 {st : List Value} {w : pm_H} {pl : pm_L} {x0 x1 : Int32} : pm_ev 94 3 pl (.int x1 :: .int x0 :: st) w = if x0 < x1 then pm_ev 94 16 pl st w else pm_ev 94 6 pl st w := pm_nif pt_94 d94_3 rfl rfl rfl
theorem d94_6 : decode cX6_isDigit 6 = .ok (.iload_n 0, 1) := by decide +kernel
theorem z94_6 {st : List Value} {w : pm_H}  {x0 : Int32} : pm_ev 94 6 [some (.int x0)] st w = pm_ev 94 7 [some (.int x0)] (.int x0 :: st) w := pm_ny pt_94 d94_6 rfl rfl rfl
theorem d94_7 : decode cX6_isDigit 7 = .ok (.bipush 57, 2) := by decide +kernel
theorem z94_7 {st : List Value} {w : pm_H} {pl : pm_L} : pm_ev 94 7 pl st w = pm_ev 94 9 pl (.int 57 :: st) w := pm_ny pt_94 d94_7 rfl rfl rfl
theorem d94_9 : decode cX6_isDigit 9 = .ok (.if_icmp .gt 7, 3) := by decide +kernel
theorem z94_9 {st : List Value} {w : pm_H} {pl : pm_L} {x0 x1 : Int32} : pm_ev 94 9 pl (.int x1 :: .int x0 :: st) w = if x1 < x0 then pm_ev 94 16 pl st w else pm_ev 94 12 pl st w := pm_nif pt_94 d94_9 rfl rfl rfl
theorem d94_12 : decode cX6_isDigit 12 = .ok (.iconst 1, 1) := by decide +kernel
theorem z94_12 {st : List Value} {w : pm_H} {pl : pm_L} : pm_ev 94 12 pl st w = pm_ev 94 13 pl (.int 1 :: st) w := pm_ny pt_94 d94_12 rfl rfl rfl
theorem d94_13 : decode cX6_isDigit 13 = .ok (.goto 4, 3) := by decide +kernel
theorem z94_13 {st : List Value} {w : pm_H} {pl : pm_L} : pm_ev 94 13 pl st w = pm_ev 94 17 pl st w := pm_ny pt_94 d94_13 rfl rfl rfl
theorem d94_16 : decode cX6_isDigit 16 = .ok (.iconst 0, 1) := by decide +kernel
theorem z94_16 {st : List Value} {w : pm_H} {pl : pm_L} : pm_ev 94 16 pl st w = pm_ev 94 17 pl (.int 0 :: st) w := pm_ny pt_94 d94_16 rfl rfl rfl
theorem d94_17 : decode cX6_isDigit 17 = .ok (.ireturn, 1) := by decide +kernel
theorem z94_17 {w : pm_H} {pl : pm_L} {x0 : Int32} : pm_ev 94 17 pl [.int x0] w = pm_zr x0 w := pm_nz pt_94 d94_17
theorem d95_0 : decode cX6_tapeAt 0 = .ok (.iload_n 1, 1) := by decide +kernel
theorem z95_0 {st : List Value} {w : pm_H} {b0 : Option Value} {x0 : Int32} : pm_ev 95 0 [b0, some (.int x0)] st w = pm_ev 95 1 [b0, some (.int x0)] (.int x0 :: st) w := pm_ny pt_95 d95_0 rfl rfl rfl
theorem d95_1 : decode cX6_tapeAt 1 = .ok (.aload_n 0, 1) := by decide +kernel
theorem z95_1 {st : List Value} {w : pm_H} {b1 : Option Value} {x0 : Nat} : pm_ev 95 1 [some (.ref x0), b1] st w = pm_ev 95 2 [some (.ref x0), b1] (.ref x0 :: st) w := pm_ny pt_95 d95_1 rfl rfl rfl
theorem d95_2 : decode cX6_tapeAt 2 = .ok (.getfield 18, 3) := by decide +kernel
theorem z95_2 {st : List Value} {w : pm_H} {pl : pm_L} {x0 : Nat} : pm_ev 95 2 pl (.ref x0 :: st) w = pm_kv 95 5 pl st w (pm_gf (w x0) 6 3) := pm_ng pt_95 pt_F_6_18 d95_2
theorem d95_5 : decode cX6_tapeAt 5 = .ok (.if_icmp .ge 12, 3) := by decide +kernel
theorem z95_5 {st : List Value} {w : pm_H} {pl : pm_L} {x0 x1 : Int32} : pm_ev 95 5 pl (.int x1 :: .int x0 :: st) w = if x0 < x1 then pm_ev 95 8 pl st w else pm_ev 95 17 pl st w := pm_nin (c := x1 ≤ x0) pt_95 d95_5 rfl rfl rfl pm_ge
theorem d95_8 : decode cX6_tapeAt 8 = .ok (.aload_n 0, 1) := by decide +kernel
theorem z95_8 {st : List Value} {w : pm_H} {b1 : Option Value} {x0 : Nat} : pm_ev 95 8 [some (.ref x0), b1] st w = pm_ev 95 9 [some (.ref x0), b1] (.ref x0 :: st) w := pm_ny pt_95 d95_8 rfl rfl rfl
theorem d95_9 : decode cX6_tapeAt 9 = .ok (.getfield 7, 3) := by decide +kernel
theorem z95_9 {st : List Value} {w : pm_H} {pl : pm_L} {x0 : Nat} : pm_ev 95 9 pl (.ref x0 :: st) w = pm_kv 95 12 pl st w (pm_gf (w x0) 6 1) := pm_ng pt_95 pt_F_6_7 d95_9
theorem d95_12 : decode cX6_tapeAt 12 = .ok (.iload_n 1, 1) := by decide +kernel
theorem z95_12 {st : List Value} {w : pm_H} {b0 : Option Value} {x0 : Int32} : pm_ev 95 12 [b0, some (.int x0)] st w = pm_ev 95 13 [b0, some (.int x0)] (.int x0 :: st) w := pm_ny pt_95 d95_12 rfl rfl rfl
theorem d95_13 : decode cX6_tapeAt 13 = .ok (.iaload, 1) := by decide +kernel
theorem z95_13 {st : List Value} {w : pm_H} {pl : pm_L} {x0 : Nat} {x1 : Int32} : pm_ev 95 13 pl (.int x1 :: .ref x0 :: st) w = pm_kv 95 14 pl st w (pm_ia (w x0) 0 x1) := pm_nia pt_95 d95_13
theorem d95_14 : decode cX6_tapeAt 14 = .ok (.goto 4, 3) := by decide +kernel
theorem z95_14 {st : List Value} {w : pm_H} {pl : pm_L} : pm_ev 95 14 pl st w = pm_ev 95 18 pl st w := pm_ny pt_95 d95_14 rfl rfl rfl
theorem d95_17 : decode cX6_tapeAt 17 = .ok (.iconst 0, 1) := by decide +kernel
theorem z95_17 {st : List Value} {w : pm_H} {pl : pm_L} : pm_ev 95 17 pl st w = pm_ev 95 18 pl (.int 0 :: st) w := pm_ny pt_95 d95_17 rfl rfl rfl
theorem d95_18 : decode cX6_tapeAt 18 = .ok (.ireturn, 1) := by decide +kernel
theorem z95_18 {w : pm_H} {pl : pm_L} {x0 : Int32} : pm_ev 95 18 pl [.int x0] w = some (some (.int x0), w) := pm_nr pt_95 d95_18 rfl
theorem d96_0 : decode cX6_isIn 0 = .ok (.iload_n 0, 1) := by decide +kernel
theorem z96_0 {st : List Value} {w : pm_H} {b1 b2 : Option Value} {x0 : Int32} : pm_ev 96 0 [some (.int x0), b1, b2] st w = pm_ev 96 1 [some (.int x0), b1, b2] (.int x0 :: st) w := pm_ny pt_96 d96_0 rfl rfl rfl
theorem d96_1 : decode cX6_isIn 1 = .ok (.iload_n 1, 1) := by decide +kernel
theorem z96_1 {st : List Value} {w : pm_H} {b0 b2 : Option Value} {x0 : Int32} : pm_ev 96 1 [b0, some (.int x0), b2] st w = pm_ev 96 2 [b0, some (.int x0), b2] (.int x0 :: st) w := pm_ny pt_96 d96_1 rfl rfl rfl
theorem d96_2 : decode cX6_isIn 2 = .ok (.if_icmp .lt 12, 3) := by decide +kernel
theorem z96_2 {st : List Value} {w : pm_H} {pl : pm_L} {x0 x1 : Int32} : pm_ev 96 2 pl (.int x1 :: .int x0 :: st) w = if x0 < x1 then pm_ev 96 14 pl st w else pm_ev 96 5 pl st w := pm_nif pt_96 d96_2 rfl rfl rfl
theorem d96_5 : decode cX6_isIn 5 = .ok (.iload_n 0, 1) := by decide +kernel
theorem z96_5 {st : List Value} {w : pm_H} {b1 b2 : Option Value} {x0 : Int32} : pm_ev 96 5 [some (.int x0), b1, b2] st w = pm_ev 96 6 [some (.int x0), b1, b2] (.int x0 :: st) w := pm_ny pt_96 d96_5 rfl rfl rfl
theorem d96_6 : decode cX6_isIn 6 = .ok (.iload_n 2, 1) := by decide +kernel
theorem z96_6 {st : List Value} {w : pm_H} {b0 b1 : Option Value} {x0 : Int32} : pm_ev 96 6 [b0, b1, some (.int x0)] st w = pm_ev 96 7 [b0, b1, some (.int x0)] (.int x0 :: st) w := pm_ny pt_96 d96_6 rfl rfl rfl
theorem d96_7 : decode cX6_isIn 7 = .ok (.if_icmp .gt 7, 3) := by decide +kernel
theorem z96_7 {st : List Value} {w : pm_H} {pl : pm_L} {x0 x1 : Int32} : pm_ev 96 7 pl (.int x1 :: .int x0 :: st) w = if x1 < x0 then pm_ev 96 14 pl st w else pm_ev 96 10 pl st w := pm_nif pt_96 d96_7 rfl rfl rfl
theorem d96_10 : decode cX6_isIn 10 = .ok (.iconst 1, 1) := by decide +kernel
theorem z96_10 {st : List Value} {w : pm_H} {pl : pm_L} : pm_ev 96 10 pl st w = pm_ev 96 11 pl (.int 1 :: st) w := pm_ny pt_96 d96_10 rfl rfl rfl
theorem d96_11 : decode cX6_isIn 11 = .ok (.goto 4, 3) := by decide +kernel
theorem z96_11 {st : List Value} {w : pm_H} {pl : pm_L} : pm_ev 96 11 pl st w = pm_ev 96 15 pl st w := pm_ny pt_96 d96_11 rfl rfl rfl
theorem d96_14 : decode cX6_isIn 14 = .ok (.iconst 0, 1) := by decide +kernel
theorem z96_14 {st : List Value} {w : pm_H} {pl : pm_L} : pm_ev 96 14 pl st w = pm_ev 96 15 pl (.int 0 :: st) w := pm_ny pt_96 d96_14 rfl rfl rfl
theorem d96_15 : decode cX6_isIn 15 = .ok (.ireturn, 1) := by decide +kernel
theorem z96_15 {w : pm_H} {pl : pm_L} {x0 : Int32} : pm_ev 96 15 pl [.int x0] w = pm_zr x0 w := pm_nz pt_96 d96_15
theorem d97_0 : decode cX6_readLine 0 = .ok (.iload_n 1, 1) := by decide +kernel
theorem z97_0 {st : List Value} {w : pm_H} {b0 : Option Value} {x0 : Int32} : pm_ev 97 0 [b0, some (.int x0)] st w = pm_ev 97 1 [b0, some (.int x0)] (.int x0 :: st) w := pm_ny pt_97 d97_0 rfl rfl rfl
theorem d97_1 : decode cX6_readLine 1 = .ok (.ifCond .ne 10, 3) := by decide +kernel
theorem z97_1 {st : List Value} {w : pm_H} {pl : pm_L} {x0 : Int32} : pm_ev 97 1 pl (.int x0 :: st) w = if x0 = 0 then pm_ev 97 4 pl st w else pm_ev 97 11 pl st w := pm_nin (c := ¬ x0 = 0) pt_97 d97_1 rfl rfl rfl Iff.rfl
theorem d97_4 : decode cX6_readLine 4 = .ok (.aload_n 0, 1) := by decide +kernel
theorem z97_4 {st : List Value} {w : pm_H} {b1 : Option Value} {x0 : Nat} : pm_ev 97 4 [some (.ref x0), b1] st w = pm_ev 97 5 [some (.ref x0), b1] (.ref x0 :: st) w := pm_ny pt_97 d97_4 rfl rfl rfl
theorem d97_5 : decode cX6_readLine 5 = .ok (.invokevirtual 157, 3) := by decide +kernel
theorem z97_5 {w : pm_H} {b0 b1 : Option Value} {x0 : Nat} : pm_ev 97 5 [b0, b1] [.ref x0] w = pm_k 97 8 [b0, b1] [] (pm_vc (w x0) 6 (pm_call 98 [.ref x0] w)) := pm_nv pt_97 pt_98 pt_M_6_157 d97_5 ⟨rfl, rfl⟩ ⟨⟨rfl, Nat.le_of_ble_eq_true rfl, Nat.le_of_ble_eq_true rfl, Nat.le_of_ble_eq_true rfl, Nat.le_of_ble_eq_true rfl⟩, rfl⟩
theorem d97_8 : decode cX6_readLine 8 = .ok (.goto 22, 3) := by decide +kernel
theorem z97_8 {st : List Value} {w : pm_H} {pl : pm_L} : pm_ev 97 8 pl st w = pm_ev 97 30 pl st w := pm_ny pt_97 d97_8 rfl rfl rfl
theorem d97_11 : decode cX6_readLine 11 = .ok (.iload_n 1, 1) := by decide +kernel
theorem z97_11 {st : List Value} {w : pm_H} {b0 : Option Value} {x0 : Int32} : pm_ev 97 11 [b0, some (.int x0)] st w = pm_ev 97 12 [b0, some (.int x0)] (.int x0 :: st) w := pm_ny pt_97 d97_11 rfl rfl rfl
theorem d97_12 : decode cX6_readLine 12 = .ok (.iconst 4, 1) := by decide +kernel
theorem z97_12 {st : List Value} {w : pm_H} {pl : pm_L} : pm_ev 97 12 pl st w = pm_ev 97 13 pl (.int 4 :: st) w := pm_ny pt_97 d97_12 rfl rfl rfl
theorem d97_13 : decode cX6_readLine 13 = .ok (.if_icmp .gt 13, 3) := by decide +kernel
theorem z97_13 {st : List Value} {w : pm_H} {pl : pm_L} {x0 x1 : Int32} : pm_ev 97 13 pl (.int x1 :: .int x0 :: st) w = if x1 < x0 then pm_ev 97 26 pl st w else pm_ev 97 16 pl st w := pm_nif pt_97 d97_13 rfl rfl rfl
theorem d97_16 : decode cX6_readLine 16 = .ok (.aload_n 0, 1) := by decide +kernel
theorem z97_16 {st : List Value} {w : pm_H} {b1 : Option Value} {x0 : Nat} : pm_ev 97 16 [some (.ref x0), b1] st w = pm_ev 97 17 [some (.ref x0), b1] (.ref x0 :: st) w := pm_ny pt_97 d97_16 rfl rfl rfl
theorem d97_17 : decode cX6_readLine 17 = .ok (.iload_n 1, 1) := by decide +kernel
theorem z97_17 {st : List Value} {w : pm_H} {b0 : Option Value} {x0 : Int32} : pm_ev 97 17 [b0, some (.int x0)] st w = pm_ev 97 18 [b0, some (.int x0)] (.int x0 :: st) w := pm_ny pt_97 d97_17 rfl rfl rfl
theorem d97_18 : decode cX6_readLine 18 = .ok (.iconst 1, 1) := by decide +kernel
theorem z97_18 {st : List Value} {w : pm_H} {pl : pm_L} : pm_ev 97 18 pl st w = pm_ev 97 19 pl (.int 1 :: st) w := pm_ny pt_97 d97_18 rfl rfl rfl
theorem d97_19 : decode cX6_readLine 19 = .ok (.isub, 1) := by decide +kernel
theorem z97_19 {st : List Value} {w : pm_H} {pl : pm_L} {x0 x1 : Int32} : pm_ev 97 19 pl (.int x1 :: .int x0 :: st) w = pm_ev 97 20 pl (.int (x0 - x1) :: st) w := pm_ny pt_97 d97_19 rfl rfl rfl
theorem d97_20 : decode cX6_readLine 20 = .ok (.invokevirtual 160, 3) := by decide +kernel
theorem z97_20 {w : pm_H} {b0 b1 : Option Value} {x0 : Int32} {x1 : Nat} : pm_ev 97 20 [b0, b1] [.int x0, .ref x1] w = pm_k 97 23 [b0, b1] [] (pm_vc (w x1) 6 (pm_call 104 [.ref x1, .int x0] w)) := pm_nv pt_97 pt_104 pt_M_6_160 d97_20 ⟨rfl, rfl⟩ ⟨⟨rfl, Nat.le_of_ble_eq_true rfl, Nat.le_of_ble_eq_true rfl, Nat.le_of_ble_eq_true rfl, Nat.le_of_ble_eq_true rfl⟩, rfl⟩
theorem d97_23 : decode cX6_readLine 23 = .ok (.goto 7, 3) := by decide +kernel
theorem z97_23 {st : List Value} {w : pm_H} {pl : pm_L} : pm_ev 97 23 pl st w = pm_ev 97 30 pl st w := pm_ny pt_97 d97_23 rfl rfl rfl
theorem d97_26 : decode cX6_readLine 26 = .ok (.aload_n 0, 1) := by decide +kernel
theorem z97_26 {st : List Value} {w : pm_H} {b1 : Option Value} {x0 : Nat} : pm_ev 97 26 [some (.ref x0), b1] st w = pm_ev 97 27 [some (.ref x0), b1] (.ref x0 :: st) w := pm_ny pt_97 d97_26 rfl rfl rfl
theorem d97_27 : decode cX6_readLine 27 = .ok (.invokevirtual 163, 3) := by decide +kernel
theorem z97_27 {w : pm_H} {b0 b1 : Option Value} {x0 : Nat} : pm_ev 97 27 [b0, b1] [.ref x0] w = pm_k 97 30 [b0, b1] [] (pm_vc (w x0) 6 (pm_call 109 [.ref x0] w)) := pm_nv pt_97 pt_109 pt_M_6_163 d97_27 ⟨rfl, rfl⟩ ⟨⟨rfl, Nat.le_of_ble_eq_true rfl, Nat.le_of_ble_eq_true rfl, Nat.le_of_ble_eq_true rfl, Nat.le_of_ble_eq_true rfl⟩, rfl⟩
theorem d97_30 : decode cX6_readLine 30 = .ok (.ireturn, 1) := by decide +kernel
theorem z97_30 {w : pm_H} {pl : pm_L} {x0 : Int32} : pm_ev 97 30 pl [.int x0] w = pm_zr x0 w := pm_nz pt_97 d97_30
theorem d98_0 : decode cX6_readShares 0 = .ok (.aload_n 0, 1) := by decide +kernel
theorem z98_0 {st : List Value} {w : pm_H}  {x0 : Nat} : pm_ev 98 0 [some (.ref x0)] st w = pm_ev 98 1 [some (.ref x0)] (.ref x0 :: st) w := pm_ny pt_98 d98_0 rfl rfl rfl
theorem d98_1 : decode cX6_readShares 1 = .ok (.bipush 115, 2) := by decide +kernel
theorem z98_1 {st : List Value} {w : pm_H} {pl : pm_L} : pm_ev 98 1 pl st w = pm_ev 98 3 pl (.int 115 :: st) w := pm_ny pt_98 d98_1 rfl rfl rfl
theorem d98_3 : decode cX6_readShares 3 = .ok (.bipush 104, 2) := by decide +kernel
theorem z98_3 {st : List Value} {w : pm_H} {pl : pm_L} : pm_ev 98 3 pl st w = pm_ev 98 5 pl (.int 104 :: st) w := pm_ny pt_98 d98_3 rfl rfl rfl
theorem d98_5 : decode cX6_readShares 5 = .ok (.bipush 97, 2) := by decide +kernel
theorem z98_5 {st : List Value} {w : pm_H} {pl : pm_L} : pm_ev 98 5 pl st w = pm_ev 98 7 pl (.int 97 :: st) w := pm_ny pt_98 d98_5 rfl rfl rfl
theorem d98_7 : decode cX6_readShares 7 = .ok (.bipush 114, 2) := by decide +kernel
theorem z98_7 {st : List Value} {w : pm_H} {pl : pm_L} : pm_ev 98 7 pl st w = pm_ev 98 9 pl (.int 114 :: st) w := pm_ny pt_98 d98_7 rfl rfl rfl
theorem d98_9 : decode cX6_readShares 9 = .ok (.bipush 101, 2) := by decide +kernel
theorem z98_9 {st : List Value} {w : pm_H} {pl : pm_L} : pm_ev 98 9 pl st w = pm_ev 98 11 pl (.int 101 :: st) w := pm_ny pt_98 d98_9 rfl rfl rfl
theorem d98_11 : decode cX6_readShares 11 = .ok (.bipush 115, 2) := by decide +kernel
theorem z98_11 {st : List Value} {w : pm_H} {pl : pm_L} : pm_ev 98 11 pl st w = pm_ev 98 13 pl (.int 115 :: st) w := pm_ny pt_98 d98_11 rfl rfl rfl
theorem d98_13 : decode cX6_readShares 13 = .ok (.invokestatic 60, 3) := by decide +kernel
theorem z98_13 {w : pm_H} {b0 : Option Value} {x0 : Int32} {x1 : Int32} {x2 : Int32} {x3 : Int32} {x4 : Int32} {x5 : Int32} {x6 : Nat} : pm_ev 98 13 [b0] [.int x0, .int x1, .int x2, .int x3, .int x4, .int x5, .ref x6] w = pm_k 98 16 [b0] [.ref x6] (pm_call 99 [.int x5, .int x4, .int x3, .int x2, .int x1, .int x0] w) := pm_ns pt_98 pt_99 pt_M_6_60 (Or.inl rfl) d98_13 ⟨rfl, rfl⟩ ⟨⟨rfl, Nat.le_of_ble_eq_true rfl, Nat.le_of_ble_eq_true rfl, Nat.le_of_ble_eq_true rfl, Nat.le_of_ble_eq_true rfl⟩, rfl⟩
theorem d98_16 : decode cX6_readShares 16 = .ok (.invokevirtual 64, 3) := by decide +kernel
theorem z98_16 {w : pm_H} {b0 : Option Value} {x0 : Int64} {x1 : Nat} : pm_ev 98 16 [b0] [.long x0, .ref x1] w = pm_k 98 19 [b0] [] (pm_vc (w x1) 6 (pm_call 101 [.ref x1, .long x0] w)) := pm_nv pt_98 pt_101 pt_M_6_64 d98_16 ⟨rfl, rfl⟩ ⟨⟨rfl, Nat.le_of_ble_eq_true rfl, Nat.le_of_ble_eq_true rfl, Nat.le_of_ble_eq_true rfl, Nat.le_of_ble_eq_true rfl⟩, rfl⟩
theorem d98_19 : decode cX6_readShares 19 = .ok (.ifCond .ne 9, 3) := by decide +kernel
theorem z98_19 {st : List Value} {w : pm_H} {pl : pm_L} {x0 : Int32} : pm_ev 98 19 pl (.int x0 :: st) w = if x0 = 0 then pm_ev 98 22 pl st w else pm_ev 98 28 pl st w := pm_nin (c := ¬ x0 = 0) pt_98 d98_19 rfl rfl rfl Iff.rfl
theorem d98_22 : decode cX6_readShares 22 = .ok (.aload_n 0, 1) := by decide +kernel
theorem z98_22 {st : List Value} {w : pm_H}  {x0 : Nat} : pm_ev 98 22 [some (.ref x0)] st w = pm_ev 98 23 [some (.ref x0)] (.ref x0 :: st) w := pm_ny pt_98 d98_22 rfl rfl rfl
theorem d98_23 : decode cX6_readShares 23 = .ok (.iconst 1, 1) := by decide +kernel
theorem z98_23 {st : List Value} {w : pm_H} {pl : pm_L} : pm_ev 98 23 pl st w = pm_ev 98 24 pl (.int 1 :: st) w := pm_ny pt_98 d98_23 rfl rfl rfl
theorem d98_24 : decode cX6_readShares 24 = .ok (.invokevirtual 107, 3) := by decide +kernel
theorem z98_24 {w : pm_H} {b0 : Option Value} {x0 : Int32} {x1 : Nat} : pm_ev 98 24 [b0] [.int x0, .ref x1] w = pm_k 98 27 [b0] [] (pm_vc (w x1) 6 (pm_call 102 [.ref x1, .int x0] w)) := pm_nv pt_98 pt_102 pt_M_6_107 d98_24 ⟨rfl, rfl⟩ ⟨⟨rfl, Nat.le_of_ble_eq_true rfl, Nat.le_of_ble_eq_true rfl, Nat.le_of_ble_eq_true rfl, Nat.le_of_ble_eq_true rfl⟩, rfl⟩
theorem d98_27 : decode cX6_readShares 27 = .ok (.ireturn, 1) := by decide +kernel
theorem z98_27 {w : pm_H} {pl : pm_L} {x0 : Int32} : pm_ev 98 27 pl [.int x0] w = pm_zr x0 w := pm_nz pt_98 d98_27
theorem d98_28 : decode cX6_readShares 28 = .ok (.aload_n 0, 1) := by decide +kernel
theorem z98_28 {st : List Value} {w : pm_H}  {x0 : Nat} : pm_ev 98 28 [some (.ref x0)] st w = pm_ev 98 29 [some (.ref x0)] (.ref x0 :: st) w := pm_ny pt_98 d98_28 rfl rfl rfl
theorem d98_29 : decode cX6_readShares 29 = .ok (.invokevirtual 114, 3) := by decide +kernel
theorem z98_29 {w : pm_H} {b0 : Option Value} {x0 : Nat} : pm_ev 98 29 [b0] [.ref x0] w = pm_k 98 32 [b0] [] (pm_vc (w x0) 6 (pm_call 92 [.ref x0] w)) := pm_nv pt_98 pt_92 pt_M_6_114 d98_29 ⟨rfl, rfl⟩ ⟨⟨rfl, Nat.le_of_ble_eq_true rfl, Nat.le_of_ble_eq_true rfl, Nat.le_of_ble_eq_true rfl, Nat.le_of_ble_eq_true rfl⟩, rfl⟩
theorem d98_32 : decode cX6_readShares 32 = .ok (.aload_n 0, 1) := by decide +kernel
theorem z98_32 {st : List Value} {w : pm_H}  {x0 : Nat} : pm_ev 98 32 [some (.ref x0)] st w = pm_ev 98 33 [some (.ref x0)] (.ref x0 :: st) w := pm_ny pt_98 d98_32 rfl rfl rfl
theorem d98_33 : decode cX6_readShares 33 = .ok (.iconst 0, 1) := by decide +kernel
theorem z98_33 {st : List Value} {w : pm_H} {pl : pm_L} : pm_ev 98 33 pl st w = pm_ev 98 34 pl (.int 0 :: st) w := pm_ny pt_98 d98_33 rfl rfl rfl
theorem d98_34 : decode cX6_readShares 34 = .ok (.iconst 1, 1) := by decide +kernel
theorem z98_34 {st : List Value} {w : pm_H} {pl : pm_L} : pm_ev 98 34 pl st w = pm_ev 98 35 pl (.int 1 :: st) w := pm_ny pt_98 d98_34 rfl rfl rfl
theorem d98_35 : decode cX6_readShares 35 = .ok (.ldc 117, 2) := by decide +kernel
theorem z98_35 {st : List Value} {w : pm_H} {pl : pm_L} : pm_ev 98 35 pl st w = pm_ev 98 37 pl (.int (99999) :: st) w := pm_nk pt_98 pt_K_6_117 (by decide) d98_35
theorem d98_37 : decode cX6_readShares 37 = .ok (.invokevirtual 118, 3) := by decide +kernel
theorem z98_37 {w : pm_H} {b0 : Option Value} {x0 : Int32} {x1 : Int32} {x2 : Int32} {x3 : Nat} : pm_ev 98 37 [b0] [.int x0, .int x1, .int x2, .ref x3] w = pm_k 98 40 [b0] [] (pm_vc (w x3) 6 (pm_call 103 [.ref x3, .int x2, .int x1, .int x0] w)) := pm_nv pt_98 pt_103 pt_M_6_118 d98_37 ⟨rfl, rfl⟩ ⟨⟨rfl, Nat.le_of_ble_eq_true rfl, Nat.le_of_ble_eq_true rfl, Nat.le_of_ble_eq_true rfl, Nat.le_of_ble_eq_true rfl⟩, rfl⟩
theorem d98_40 : decode cX6_readShares 40 = .ok (.ireturn, 1) := by decide +kernel
theorem z98_40 {w : pm_H} {pl : pm_L} {x0 : Int32} : pm_ev 98 40 pl [.int x0] w = pm_zr x0 w := pm_nz pt_98 d98_40
theorem d99_0 : decode cX6_six 0 = .ok (.ldc2_w 52, 3) := by decide +kernel
theorem z99_0 {st : List Value} {w : pm_H} {pl : pm_L} : pm_ev 99 0 pl st w = pm_ev 99 3 pl (.long (19683) :: st) w := pm_nk2 pt_99 pt_K_6_52 rfl d99_0
theorem d99_3 : decode cX6_six 3 = .ok (.iload_n 0, 1) := by decide +kernel
theorem z99_3 {st : List Value} {w : pm_H} {b1 b2 b3 b4 b5 : Option Value} {x0 : Int32} : pm_ev 99 3 [some (.int x0), b1, b2, b3, b4, b5] st w = pm_ev 99 4 [some (.int x0), b1, b2, b3, b4, b5] (.int x0 :: st) w := pm_ny pt_99 d99_3 rfl rfl rfl
theorem d99_4 : decode cX6_six 4 = .ok (.iload_n 1, 1) := by decide +kernel
theorem z99_4 {st : List Value} {w : pm_H} {b0 b2 b3 b4 b5 : Option Value} {x0 : Int32} : pm_ev 99 4 [b0, some (.int x0), b2, b3, b4, b5] st w = pm_ev 99 5 [b0, some (.int x0), b2, b3, b4, b5] (.int x0 :: st) w := pm_ny pt_99 d99_4 rfl rfl rfl
theorem d99_5 : decode cX6_six 5 = .ok (.iload_n 2, 1) := by decide +kernel
theorem z99_5 {st : List Value} {w : pm_H} {b0 b1 b3 b4 b5 : Option Value} {x0 : Int32} : pm_ev 99 5 [b0, b1, some (.int x0), b3, b4, b5] st w = pm_ev 99 6 [b0, b1, some (.int x0), b3, b4, b5] (.int x0 :: st) w := pm_ny pt_99 d99_5 rfl rfl rfl
theorem d99_6 : decode cX6_six 6 = .ok (.invokestatic 54, 3) := by decide +kernel
theorem z99_6 {w : pm_H} {b0 b1 b2 b3 b4 b5 : Option Value} {x0 : Int32} {x1 : Int32} {x2 : Int32} {x3 : Int64} : pm_ev 99 6 [b0, b1, b2, b3, b4, b5] [.int x0, .int x1, .int x2, .long x3] w = pm_k 99 9 [b0, b1, b2, b3, b4, b5] [.long x3] (pm_call 100 [.int x2, .int x1, .int x0] w) := pm_ns pt_99 pt_100 pt_M_6_54 (Or.inl rfl) d99_6 ⟨rfl, rfl⟩ ⟨⟨rfl, Nat.le_of_ble_eq_true rfl, Nat.le_of_ble_eq_true rfl, Nat.le_of_ble_eq_true rfl, Nat.le_of_ble_eq_true rfl⟩, rfl⟩
theorem d99_9 : decode cX6_six 9 = .ok (.lmul, 1) := by decide +kernel
theorem z99_9 {st : List Value} {w : pm_H} {pl : pm_L} {x0 x1 : Int64} : pm_ev 99 9 pl (.long x1 :: .long x0 :: st) w = pm_ev 99 10 pl (.long (x0 * x1) :: st) w := pm_ny pt_99 d99_9 rfl rfl rfl
theorem d99_10 : decode cX6_six 10 = .ok (.iload_n 3, 1) := by decide +kernel
theorem z99_10 {st : List Value} {w : pm_H} {b0 b1 b2 b4 b5 : Option Value} {x0 : Int32} : pm_ev 99 10 [b0, b1, b2, some (.int x0), b4, b5] st w = pm_ev 99 11 [b0, b1, b2, some (.int x0), b4, b5] (.int x0 :: st) w := pm_ny pt_99 d99_10 rfl rfl rfl
theorem d99_11 : decode cX6_six 11 = .ok (.iload 4, 2) := by decide +kernel
theorem z99_11 {st : List Value} {w : pm_H} {b0 b1 b2 b3 b5 : Option Value} {x0 : Int32} : pm_ev 99 11 [b0, b1, b2, b3, some (.int x0), b5] st w = pm_ev 99 13 [b0, b1, b2, b3, some (.int x0), b5] (.int x0 :: st) w := pm_ny pt_99 d99_11 rfl rfl rfl
theorem d99_13 : decode cX6_six 13 = .ok (.iload 5, 2) := by decide +kernel
theorem z99_13 {st : List Value} {w : pm_H} {b0 b1 b2 b3 b4 : Option Value} {x0 : Int32} : pm_ev 99 13 [b0, b1, b2, b3, b4, some (.int x0)] st w = pm_ev 99 15 [b0, b1, b2, b3, b4, some (.int x0)] (.int x0 :: st) w := pm_ny pt_99 d99_13 rfl rfl rfl
theorem d99_15 : decode cX6_six 15 = .ok (.invokestatic 54, 3) := by decide +kernel
theorem z99_15 {w : pm_H} {b0 b1 b2 b3 b4 b5 : Option Value} {x0 : Int32} {x1 : Int32} {x2 : Int32} {x3 : Int64} : pm_ev 99 15 [b0, b1, b2, b3, b4, b5] [.int x0, .int x1, .int x2, .long x3] w = pm_k 99 18 [b0, b1, b2, b3, b4, b5] [.long x3] (pm_call 100 [.int x2, .int x1, .int x0] w) := pm_ns pt_99 pt_100 pt_M_6_54 (Or.inl rfl) d99_15 ⟨rfl, rfl⟩ ⟨⟨rfl, Nat.le_of_ble_eq_true rfl, Nat.le_of_ble_eq_true rfl, Nat.le_of_ble_eq_true rfl, Nat.le_of_ble_eq_true rfl⟩, rfl⟩
theorem d99_18 : decode cX6_six 18 = .ok (.ladd, 1) := by decide +kernel
theorem z99_18 {st : List Value} {w : pm_H} {pl : pm_L} {x0 x1 : Int64} : pm_ev 99 18 pl (.long x1 :: .long x0 :: st) w = pm_ev 99 19 pl (.long (x0 + x1) :: st) w := pm_ny pt_99 d99_18 rfl rfl rfl
theorem d99_19 : decode cX6_six 19 = .ok (.lreturn, 1) := by decide +kernel
theorem z99_19 {w : pm_H} {pl : pm_L} {x0 : Int64} : pm_ev 99 19 pl [.long x0] w = some (some (.long x0), w) := pm_nr pt_99 d99_19 rfl
theorem d100_0 : decode cX6_three 0 = .ok (.ldc2_w 48, 3) := by decide +kernel
theorem z100_0 {st : List Value} {w : pm_H} {pl : pm_L} : pm_ev 100 0 pl st w = pm_ev 100 3 pl (.long (27) :: st) w := pm_nk2 pt_100 pt_K_6_48 rfl d100_0
theorem d100_3 : decode cX6_three 3 = .ok (.ldc2_w 48, 3) := by decide +kernel
theorem z100_3 {st : List Value} {w : pm_H} {pl : pm_L} : pm_ev 100 3 pl st w = pm_ev 100 6 pl (.long (27) :: st) w := pm_nk2 pt_100 pt_K_6_48 rfl d100_3
theorem d100_6 : decode cX6_three 6 = .ok (.iload_n 0, 1) := by decide +kernel
theorem z100_6 {st : List Value} {w : pm_H} {b1 b2 : Option Value} {x0 : Int32} : pm_ev 100 6 [some (.int x0), b1, b2] st w = pm_ev 100 7 [some (.int x0), b1, b2] (.int x0 :: st) w := pm_ny pt_100 d100_6 rfl rfl rfl
theorem d100_7 : decode cX6_three 7 = .ok (.i2l, 1) := by decide +kernel
theorem z100_7 {st : List Value} {w : pm_H} {pl : pm_L} {x0 : Int32} : pm_ev 100 7 pl (.int x0 :: st) w = pm_ev 100 8 pl (.long x0.toInt64 :: st) w := pm_ny pt_100 d100_7 rfl rfl rfl
theorem d100_8 : decode cX6_three 8 = .ok (.ldc2_w 50, 3) := by decide +kernel
theorem z100_8 {st : List Value} {w : pm_H} {pl : pm_L} : pm_ev 100 8 pl st w = pm_ev 100 11 pl (.long (96) :: st) w := pm_nk2 pt_100 pt_K_6_50 rfl d100_8
theorem d100_11 : decode cX6_three 11 = .ok (.lsub, 1) := by decide +kernel
theorem z100_11 {st : List Value} {w : pm_H} {pl : pm_L} {x0 x1 : Int64} : pm_ev 100 11 pl (.long x1 :: .long x0 :: st) w = pm_ev 100 12 pl (.long (x0 - x1) :: st) w := pm_ny pt_100 d100_11 rfl rfl rfl
theorem d100_12 : decode cX6_three 12 = .ok (.lmul, 1) := by decide +kernel
theorem z100_12 {st : List Value} {w : pm_H} {pl : pm_L} {x0 x1 : Int64} : pm_ev 100 12 pl (.long x1 :: .long x0 :: st) w = pm_ev 100 13 pl (.long (x0 * x1) :: st) w := pm_ny pt_100 d100_12 rfl rfl rfl
theorem d100_13 : decode cX6_three 13 = .ok (.iload_n 1, 1) := by decide +kernel
theorem z100_13 {st : List Value} {w : pm_H} {b0 b2 : Option Value} {x0 : Int32} : pm_ev 100 13 [b0, some (.int x0), b2] st w = pm_ev 100 14 [b0, some (.int x0), b2] (.int x0 :: st) w := pm_ny pt_100 d100_13 rfl rfl rfl
theorem d100_14 : decode cX6_three 14 = .ok (.i2l, 1) := by decide +kernel
theorem z100_14 {st : List Value} {w : pm_H} {pl : pm_L} {x0 : Int32} : pm_ev 100 14 pl (.int x0 :: st) w = pm_ev 100 15 pl (.long x0.toInt64 :: st) w := pm_ny pt_100 d100_14 rfl rfl rfl
theorem d100_15 : decode cX6_three 15 = .ok (.ladd, 1) := by decide +kernel
theorem z100_15 {st : List Value} {w : pm_H} {pl : pm_L} {x0 x1 : Int64} : pm_ev 100 15 pl (.long x1 :: .long x0 :: st) w = pm_ev 100 16 pl (.long (x0 + x1) :: st) w := pm_ny pt_100 d100_15 rfl rfl rfl
theorem d100_16 : decode cX6_three 16 = .ok (.ldc2_w 50, 3) := by decide +kernel
theorem z100_16 {st : List Value} {w : pm_H} {pl : pm_L} : pm_ev 100 16 pl st w = pm_ev 100 19 pl (.long (96) :: st) w := pm_nk2 pt_100 pt_K_6_50 rfl d100_16
theorem d100_19 : decode cX6_three 19 = .ok (.lsub, 1) := by decide +kernel
theorem z100_19 {st : List Value} {w : pm_H} {pl : pm_L} {x0 x1 : Int64} : pm_ev 100 19 pl (.long x1 :: .long x0 :: st) w = pm_ev 100 20 pl (.long (x0 - x1) :: st) w := pm_ny pt_100 d100_19 rfl rfl rfl
theorem d100_20 : decode cX6_three 20 = .ok (.lmul, 1) := by decide +kernel
theorem z100_20 {st : List Value} {w : pm_H} {pl : pm_L} {x0 x1 : Int64} : pm_ev 100 20 pl (.long x1 :: .long x0 :: st) w = pm_ev 100 21 pl (.long (x0 * x1) :: st) w := pm_ny pt_100 d100_20 rfl rfl rfl
theorem d100_21 : decode cX6_three 21 = .ok (.iload_n 2, 1) := by decide +kernel
theorem z100_21 {st : List Value} {w : pm_H} {b0 b1 : Option Value} {x0 : Int32} : pm_ev 100 21 [b0, b1, some (.int x0)] st w = pm_ev 100 22 [b0, b1, some (.int x0)] (.int x0 :: st) w := pm_ny pt_100 d100_21 rfl rfl rfl
theorem d100_22 : decode cX6_three 22 = .ok (.i2l, 1) := by decide +kernel
theorem z100_22 {st : List Value} {w : pm_H} {pl : pm_L} {x0 : Int32} : pm_ev 100 22 pl (.int x0 :: st) w = pm_ev 100 23 pl (.long x0.toInt64 :: st) w := pm_ny pt_100 d100_22 rfl rfl rfl
theorem d100_23 : decode cX6_three 23 = .ok (.ladd, 1) := by decide +kernel
theorem z100_23 {st : List Value} {w : pm_H} {pl : pm_L} {x0 x1 : Int64} : pm_ev 100 23 pl (.long x1 :: .long x0 :: st) w = pm_ev 100 24 pl (.long (x0 + x1) :: st) w := pm_ny pt_100 d100_23 rfl rfl rfl
theorem d100_24 : decode cX6_three 24 = .ok (.ldc2_w 50, 3) := by decide +kernel
theorem z100_24 {st : List Value} {w : pm_H} {pl : pm_L} : pm_ev 100 24 pl st w = pm_ev 100 27 pl (.long (96) :: st) w := pm_nk2 pt_100 pt_K_6_50 rfl d100_24
theorem d100_27 : decode cX6_three 27 = .ok (.lsub, 1) := by decide +kernel
theorem z100_27 {st : List Value} {w : pm_H} {pl : pm_L} {x0 x1 : Int64} : pm_ev 100 27 pl (.long x1 :: .long x0 :: st) w = pm_ev 100 28 pl (.long (x0 - x1) :: st) w := pm_ny pt_100 d100_27 rfl rfl rfl
theorem d100_28 : decode cX6_three 28 = .ok (.lreturn, 1) := by decide +kernel
theorem z100_28 {w : pm_H} {pl : pm_L} {x0 : Int64} : pm_ev 100 28 pl [.long x0] w = some (some (.long x0), w) := pm_nr pt_100 d100_28 rfl
theorem d101_0 : decode cX6_isWord 0 = .ok (.aload_n 0, 1) := by decide +kernel
theorem z101_0 {st : List Value} {w : pm_H} {b1 b2 : Option Value} {x0 : Nat} : pm_ev 101 0 [some (.ref x0), b1, b2] st w = pm_ev 101 1 [some (.ref x0), b1, b2] (.ref x0 :: st) w := pm_ny pt_101 d101_0 rfl rfl rfl
theorem d101_1 : decode cX6_isWord 1 = .ok (.getfield 27, 3) := by decide +kernel
theorem z101_1 {st : List Value} {w : pm_H} {pl : pm_L} {x0 : Nat} : pm_ev 101 1 pl (.ref x0 :: st) w = pm_kv 101 4 pl st w (pm_gf (w x0) 6 6) := pm_ng pt_101 pt_F_6_27 d101_1
theorem d101_4 : decode cX6_isWord 4 = .ok (.iconst 2, 1) := by decide +kernel
theorem z101_4 {st : List Value} {w : pm_H} {pl : pm_L} : pm_ev 101 4 pl st w = pm_ev 101 5 pl (.int 2 :: st) w := pm_ny pt_101 d101_4 rfl rfl rfl
theorem d101_5 : decode cX6_isWord 5 = .ok (.if_icmp .ne 16, 3) := by decide +kernel
theorem z101_5 {st : List Value} {w : pm_H} {pl : pm_L} {x0 x1 : Int32} : pm_ev 101 5 pl (.int x1 :: .int x0 :: st) w = if x0 = x1 then pm_ev 101 8 pl st w else pm_ev 101 21 pl st w := pm_nin (c := ¬ x0 = x1) pt_101 d101_5 rfl rfl rfl Iff.rfl
theorem d101_8 : decode cX6_isWord 8 = .ok (.aload_n 0, 1) := by decide +kernel
theorem z101_8 {st : List Value} {w : pm_H} {b1 b2 : Option Value} {x0 : Nat} : pm_ev 101 8 [some (.ref x0), b1, b2] st w = pm_ev 101 9 [some (.ref x0), b1, b2] (.ref x0 :: st) w := pm_ny pt_101 d101_8 rfl rfl rfl
theorem d101_9 : decode cX6_isWord 9 = .ok (.getfield 37, 3) := by decide +kernel
theorem z101_9 {st : List Value} {w : pm_H} {pl : pm_L} {x0 : Nat} : pm_ev 101 9 pl (.ref x0 :: st) w = pm_kv 101 12 pl st w (pm_gf (w x0) 6 10) := pm_ng pt_101 pt_F_6_37 d101_9
theorem d101_12 : decode cX6_isWord 12 = .ok (.lload_n 1, 1) := by decide +kernel
theorem z101_12 {st : List Value} {w : pm_H} {b0 b2 : Option Value} {x0 : Int64} : pm_ev 101 12 [b0, some (.long x0), b2] st w = pm_ev 101 13 [b0, some (.long x0), b2] (.long x0 :: st) w := pm_ny pt_101 d101_12 rfl rfl rfl
theorem d101_13 : decode cX6_isWord 13 = .ok (.lcmp, 1) := by decide +kernel
theorem z101_13 {st : List Value} {w : pm_H} {pl : pm_L} {x0 x1 : Int64} : pm_ev 101 13 pl (.long x1 :: .long x0 :: st) w = pm_ev 101 14 pl (.int (lg_cmp x0 x1) :: st) w := pm_ny pt_101 d101_13 rfl rfl rfl
theorem d101_14 : decode cX6_isWord 14 = .ok (.ifCond .ne 7, 3) := by decide +kernel
theorem z101_14 {st : List Value} {w : pm_H} {pl : pm_L} {x0 : Int32} : pm_ev 101 14 pl (.int x0 :: st) w = if x0 = 0 then pm_ev 101 17 pl st w else pm_ev 101 21 pl st w := pm_nin (c := ¬ x0 = 0) pt_101 d101_14 rfl rfl rfl Iff.rfl
theorem d101_17 : decode cX6_isWord 17 = .ok (.iconst 1, 1) := by decide +kernel
theorem z101_17 {st : List Value} {w : pm_H} {pl : pm_L} : pm_ev 101 17 pl st w = pm_ev 101 18 pl (.int 1 :: st) w := pm_ny pt_101 d101_17 rfl rfl rfl
theorem d101_18 : decode cX6_isWord 18 = .ok (.goto 4, 3) := by decide +kernel
theorem z101_18 {st : List Value} {w : pm_H} {pl : pm_L} : pm_ev 101 18 pl st w = pm_ev 101 22 pl st w := pm_ny pt_101 d101_18 rfl rfl rfl
theorem d101_21 : decode cX6_isWord 21 = .ok (.iconst 0, 1) := by decide +kernel
theorem z101_21 {st : List Value} {w : pm_H} {pl : pm_L} : pm_ev 101 21 pl st w = pm_ev 101 22 pl (.int 0 :: st) w := pm_ny pt_101 d101_21 rfl rfl rfl
theorem d101_22 : decode cX6_isWord 22 = .ok (.ireturn, 1) := by decide +kernel
theorem z101_22 {w : pm_H} {pl : pm_L} {x0 : Int32} : pm_ev 101 22 pl [.int x0] w = pm_zr x0 w := pm_nz pt_101 d101_22
theorem d102_0 : decode cX6_bad 0 = .ok (.aload_n 0, 1) := by decide +kernel
theorem z102_0 {st : List Value} {w : pm_H} {b1 : Option Value} {x0 : Nat} : pm_ev 102 0 [some (.ref x0), b1] st w = pm_ev 102 1 [some (.ref x0), b1] (.ref x0 :: st) w := pm_ny pt_102 d102_0 rfl rfl rfl
theorem d102_1 : decode cX6_bad 1 = .ok (.aload_n 0, 1) := by decide +kernel
theorem z102_1 {st : List Value} {w : pm_H} {b1 : Option Value} {x0 : Nat} : pm_ev 102 1 [some (.ref x0), b1] st w = pm_ev 102 2 [some (.ref x0), b1] (.ref x0 :: st) w := pm_ny pt_102 d102_1 rfl rfl rfl
theorem d102_2 : decode cX6_bad 2 = .ok (.getfield 27, 3) := by decide +kernel
theorem z102_2 {st : List Value} {w : pm_H} {pl : pm_L} {x0 : Nat} : pm_ev 102 2 pl (.ref x0 :: st) w = pm_kv 102 5 pl st w (pm_gf (w x0) 6 6) := pm_ng pt_102 pt_F_6_27 d102_2
theorem d102_5 : decode cX6_bad 5 = .ok (.iconst 1, 1) := by decide +kernel
theorem z102_5 {st : List Value} {w : pm_H} {pl : pm_L} : pm_ev 102 5 pl st w = pm_ev 102 6 pl (.int 1 :: st) w := pm_ny pt_102 d102_5 rfl rfl rfl
theorem d102_6 : decode cX6_bad 6 = .ok (.if_icmp .ne 7, 3) := by decide +kernel
theorem z102_6 {st : List Value} {w : pm_H} {pl : pm_L} {x0 x1 : Int32} : pm_ev 102 6 pl (.int x1 :: .int x0 :: st) w = if x0 = x1 then pm_ev 102 9 pl st w else pm_ev 102 13 pl st w := pm_nin (c := ¬ x0 = x1) pt_102 d102_6 rfl rfl rfl Iff.rfl
theorem d102_9 : decode cX6_bad 9 = .ok (.iconst 1, 1) := by decide +kernel
theorem z102_9 {st : List Value} {w : pm_H} {pl : pm_L} : pm_ev 102 9 pl st w = pm_ev 102 10 pl (.int 1 :: st) w := pm_ny pt_102 d102_9 rfl rfl rfl
theorem d102_10 : decode cX6_bad 10 = .ok (.goto 4, 3) := by decide +kernel
theorem z102_10 {st : List Value} {w : pm_H} {pl : pm_L} : pm_ev 102 10 pl st w = pm_ev 102 14 pl st w := pm_ny pt_102 d102_10 rfl rfl rfl
theorem d102_13 : decode cX6_bad 13 = .ok (.iload_n 1, 1) := by decide +kernel
theorem z102_13 {st : List Value} {w : pm_H} {b0 : Option Value} {x0 : Int32} : pm_ev 102 13 [b0, some (.int x0)] st w = pm_ev 102 14 [b0, some (.int x0)] (.int x0 :: st) w := pm_ny pt_102 d102_13 rfl rfl rfl
theorem d102_14 : decode cX6_bad 14 = .ok (.putfield 72, 3) := by decide +kernel
theorem z102_14 {st : List Value} {w : pm_H} {pl : pm_L} {x0 : Nat} {x1 : Int32} : pm_ev 102 14 pl (.int x1 :: .ref x0 :: st) w = pm_kw 102 17 pl st (pm_pf w x0 (w x0) 6 8 0 (.int x1)) := pm_np pt_102 pt_F_6_72 d102_14
theorem d102_17 : decode cX6_bad 17 = .ok (.aload_n 0, 1) := by decide +kernel
theorem z102_17 {st : List Value} {w : pm_H} {b1 : Option Value} {x0 : Nat} : pm_ev 102 17 [some (.ref x0), b1] st w = pm_ev 102 18 [some (.ref x0), b1] (.ref x0 :: st) w := pm_ny pt_102 d102_17 rfl rfl rfl
theorem d102_18 : decode cX6_bad 18 = .ok (.aload_n 0, 1) := by decide +kernel
theorem z102_18 {st : List Value} {w : pm_H} {b1 : Option Value} {x0 : Nat} : pm_ev 102 18 [some (.ref x0), b1] st w = pm_ev 102 19 [some (.ref x0), b1] (.ref x0 :: st) w := pm_ny pt_102 d102_18 rfl rfl rfl
theorem d102_19 : decode cX6_bad 19 = .ok (.getfield 24, 3) := by decide +kernel
theorem z102_19 {st : List Value} {w : pm_H} {pl : pm_L} {x0 : Nat} : pm_ev 102 19 pl (.ref x0 :: st) w = pm_kv 102 22 pl st w (pm_gf (w x0) 6 5) := pm_ng pt_102 pt_F_6_24 d102_19
theorem d102_22 : decode cX6_bad 22 = .ok (.putfield 75, 3) := by decide +kernel
theorem z102_22 {st : List Value} {w : pm_H} {pl : pm_L} {x0 : Nat} {x1 : Int32} : pm_ev 102 22 pl (.int x1 :: .ref x0 :: st) w = pm_kw 102 25 pl st (pm_pf w x0 (w x0) 6 9 0 (.int x1)) := pm_np pt_102 pt_F_6_75 d102_22
theorem d102_25 : decode cX6_bad 25 = .ok (.iconst 0, 1) := by decide +kernel
theorem z102_25 {st : List Value} {w : pm_H} {pl : pm_L} : pm_ev 102 25 pl st w = pm_ev 102 26 pl (.int 0 :: st) w := pm_ny pt_102 d102_25 rfl rfl rfl
theorem d102_26 : decode cX6_bad 26 = .ok (.ireturn, 1) := by decide +kernel
theorem z102_26 {w : pm_H} {pl : pm_L} {x0 : Int32} : pm_ev 102 26 pl [.int x0] w = pm_zr x0 w := pm_nz pt_102 d102_26
theorem d103_0 : decode cX6_told 0 = .ok (.aload_n 0, 1) := by decide +kernel
theorem z103_0 {st : List Value} {w : pm_H} {b1 b2 b3 : Option Value} {x0 : Nat} : pm_ev 103 0 [some (.ref x0), b1, b2, b3] st w = pm_ev 103 1 [some (.ref x0), b1, b2, b3] (.ref x0 :: st) w := pm_ny pt_103 d103_0 rfl rfl rfl
theorem d103_1 : decode cX6_told 1 = .ok (.getfield 27, 3) := by decide +kernel
theorem z103_1 {st : List Value} {w : pm_H} {pl : pm_L} {x0 : Nat} : pm_ev 103 1 pl (.ref x0 :: st) w = pm_kv 103 4 pl st w (pm_gf (w x0) 6 6) := pm_ng pt_103 pt_F_6_27 d103_1
theorem d103_4 : decode cX6_told 4 = .ok (.iconst 3, 1) := by decide +kernel
theorem z103_4 {st : List Value} {w : pm_H} {pl : pm_L} : pm_ev 103 4 pl st w = pm_ev 103 5 pl (.int 3 :: st) w := pm_ny pt_103 d103_4 rfl rfl rfl
theorem d103_5 : decode cX6_told 5 = .ok (.if_icmp .eq 9, 3) := by decide +kernel
theorem z103_5 {st : List Value} {w : pm_H} {pl : pm_L} {x0 x1 : Int32} : pm_ev 103 5 pl (.int x1 :: .int x0 :: st) w = if x0 = x1 then pm_ev 103 14 pl st w else pm_ev 103 8 pl st w := pm_nif pt_103 d103_5 rfl rfl rfl
theorem d103_8 : decode cX6_told 8 = .ok (.aload_n 0, 1) := by decide +kernel
theorem z103_8 {st : List Value} {w : pm_H} {b1 b2 b3 : Option Value} {x0 : Nat} : pm_ev 103 8 [some (.ref x0), b1, b2, b3] st w = pm_ev 103 9 [some (.ref x0), b1, b2, b3] (.ref x0 :: st) w := pm_ny pt_103 d103_8 rfl rfl rfl
theorem d103_9 : decode cX6_told 9 = .ok (.iconst 1, 1) := by decide +kernel
theorem z103_9 {st : List Value} {w : pm_H} {pl : pm_L} : pm_ev 103 9 pl st w = pm_ev 103 10 pl (.int 1 :: st) w := pm_ny pt_103 d103_9 rfl rfl rfl
theorem d103_10 : decode cX6_told 10 = .ok (.invokevirtual 107, 3) := by decide +kernel
theorem z103_10 {w : pm_H} {b0 b1 b2 b3 : Option Value} {x0 : Int32} {x1 : Nat} : pm_ev 103 10 [b0, b1, b2, b3] [.int x0, .ref x1] w = pm_k 103 13 [b0, b1, b2, b3] [] (pm_vc (w x1) 6 (pm_call 102 [.ref x1, .int x0] w)) := pm_nv pt_103 pt_102 pt_M_6_107 d103_10 ⟨rfl, rfl⟩ ⟨⟨rfl, Nat.le_of_ble_eq_true rfl, Nat.le_of_ble_eq_true rfl, Nat.le_of_ble_eq_true rfl, Nat.le_of_ble_eq_true rfl⟩, rfl⟩
theorem d103_13 : decode cX6_told 13 = .ok (.ireturn, 1) := by decide +kernel
theorem z103_13 {w : pm_H} {pl : pm_L} {x0 : Int32} : pm_ev 103 13 pl [.int x0] w = pm_zr x0 w := pm_nz pt_103 d103_13
theorem d103_14 : decode cX6_told 14 = .ok (.aload_n 0, 1) := by decide +kernel
theorem z103_14 {st : List Value} {w : pm_H} {b1 b2 b3 : Option Value} {x0 : Nat} : pm_ev 103 14 [some (.ref x0), b1, b2, b3] st w = pm_ev 103 15 [some (.ref x0), b1, b2, b3] (.ref x0 :: st) w := pm_ny pt_103 d103_14 rfl rfl rfl
theorem d103_15 : decode cX6_told 15 = .ok (.getfield 41, 3) := by decide +kernel
theorem z103_15 {st : List Value} {w : pm_H} {pl : pm_L} {x0 : Nat} : pm_ev 103 15 pl (.ref x0 :: st) w = pm_kv 103 18 pl st w (pm_gf (w x0) 6 7) := pm_ng pt_103 pt_F_6_41 d103_15
theorem d103_18 : decode cX6_told 18 = .ok (.iload_n 2, 1) := by decide +kernel
theorem z103_18 {st : List Value} {w : pm_H} {b0 b1 b3 : Option Value} {x0 : Int32} : pm_ev 103 18 [b0, b1, some (.int x0), b3] st w = pm_ev 103 19 [b0, b1, some (.int x0), b3] (.int x0 :: st) w := pm_ny pt_103 d103_18 rfl rfl rfl
theorem d103_19 : decode cX6_told 19 = .ok (.iload_n 3, 1) := by decide +kernel
theorem z103_19 {st : List Value} {w : pm_H} {b0 b1 b2 : Option Value} {x0 : Int32} : pm_ev 103 19 [b0, b1, b2, some (.int x0)] st w = pm_ev 103 20 [b0, b1, b2, some (.int x0)] (.int x0 :: st) w := pm_ny pt_103 d103_19 rfl rfl rfl
theorem d103_20 : decode cX6_told 20 = .ok (.invokestatic 110, 3) := by decide +kernel
theorem z103_20 {w : pm_H} {b0 b1 b2 b3 : Option Value} {x0 : Int32} {x1 : Int32} {x2 : Int32} : pm_ev 103 20 [b0, b1, b2, b3] [.int x0, .int x1, .int x2] w = pm_k 103 23 [b0, b1, b2, b3] [] (pm_call 96 [.int x2, .int x1, .int x0] w) := pm_ns pt_103 pt_96 pt_M_6_110 (Or.inl rfl) d103_20 ⟨rfl, rfl⟩ ⟨⟨rfl, Nat.le_of_ble_eq_true rfl, Nat.le_of_ble_eq_true rfl, Nat.le_of_ble_eq_true rfl, Nat.le_of_ble_eq_true rfl⟩, rfl⟩
theorem d103_23 : decode cX6_told 23 = .ok (.ifCond .ne 9, 3) := by decide +kernel
theorem z103_23 {st : List Value} {w : pm_H} {pl : pm_L} {x0 : Int32} : pm_ev 103 23 pl (.int x0 :: st) w = if x0 = 0 then pm_ev 103 26 pl st w else pm_ev 103 32 pl st w := pm_nin (c := ¬ x0 = 0) pt_103 d103_23 rfl rfl rfl Iff.rfl
theorem d103_26 : decode cX6_told 26 = .ok (.aload_n 0, 1) := by decide +kernel
theorem z103_26 {st : List Value} {w : pm_H} {b1 b2 b3 : Option Value} {x0 : Nat} : pm_ev 103 26 [some (.ref x0), b1, b2, b3] st w = pm_ev 103 27 [some (.ref x0), b1, b2, b3] (.ref x0 :: st) w := pm_ny pt_103 d103_26 rfl rfl rfl
theorem d103_27 : decode cX6_told 27 = .ok (.iconst 2, 1) := by decide +kernel
theorem z103_27 {st : List Value} {w : pm_H} {pl : pm_L} : pm_ev 103 27 pl st w = pm_ev 103 28 pl (.int 2 :: st) w := pm_ny pt_103 d103_27 rfl rfl rfl
theorem d103_28 : decode cX6_told 28 = .ok (.invokevirtual 107, 3) := by decide +kernel
theorem z103_28 {w : pm_H} {b0 b1 b2 b3 : Option Value} {x0 : Int32} {x1 : Nat} : pm_ev 103 28 [b0, b1, b2, b3] [.int x0, .ref x1] w = pm_k 103 31 [b0, b1, b2, b3] [] (pm_vc (w x1) 6 (pm_call 102 [.ref x1, .int x0] w)) := pm_nv pt_103 pt_102 pt_M_6_107 d103_28 ⟨rfl, rfl⟩ ⟨⟨rfl, Nat.le_of_ble_eq_true rfl, Nat.le_of_ble_eq_true rfl, Nat.le_of_ble_eq_true rfl, Nat.le_of_ble_eq_true rfl⟩, rfl⟩
theorem d103_31 : decode cX6_told 31 = .ok (.ireturn, 1) := by decide +kernel
theorem z103_31 {w : pm_H} {pl : pm_L} {x0 : Int32} : pm_ev 103 31 pl [.int x0] w = pm_zr x0 w := pm_nz pt_103 d103_31
theorem d103_32 : decode cX6_told 32 = .ok (.aload_n 0, 1) := by decide +kernel
theorem z103_32 {st : List Value} {w : pm_H} {b1 b2 b3 : Option Value} {x0 : Nat} : pm_ev 103 32 [some (.ref x0), b1, b2, b3] st w = pm_ev 103 33 [some (.ref x0), b1, b2, b3] (.ref x0 :: st) w := pm_ny pt_103 d103_32 rfl rfl rfl
theorem d103_33 : decode cX6_told 33 = .ok (.getfield 87, 3) := by decide +kernel
theorem z103_33 {st : List Value} {w : pm_H} {pl : pm_L} {x0 : Nat} : pm_ev 103 33 pl (.ref x0 :: st) w = pm_kv 103 36 pl st w (pm_gf (w x0) 6 12) := pm_ng pt_103 pt_F_6_87 d103_33
theorem d103_36 : decode cX6_told 36 = .ok (.iload_n 1, 1) := by decide +kernel
theorem z103_36 {st : List Value} {w : pm_H} {b0 b2 b3 : Option Value} {x0 : Int32} : pm_ev 103 36 [b0, some (.int x0), b2, b3] st w = pm_ev 103 37 [b0, some (.int x0), b2, b3] (.int x0 :: st) w := pm_ny pt_103 d103_36 rfl rfl rfl
theorem d103_37 : decode cX6_told 37 = .ok (.aload_n 0, 1) := by decide +kernel
theorem z103_37 {st : List Value} {w : pm_H} {b1 b2 b3 : Option Value} {x0 : Nat} : pm_ev 103 37 [some (.ref x0), b1, b2, b3] st w = pm_ev 103 38 [some (.ref x0), b1, b2, b3] (.ref x0 :: st) w := pm_ny pt_103 d103_37 rfl rfl rfl
theorem d103_38 : decode cX6_told 38 = .ok (.getfield 41, 3) := by decide +kernel
theorem z103_38 {st : List Value} {w : pm_H} {pl : pm_L} {x0 : Nat} : pm_ev 103 38 pl (.ref x0 :: st) w = pm_kv 103 41 pl st w (pm_gf (w x0) 6 7) := pm_ng pt_103 pt_F_6_41 d103_38
theorem d103_41 : decode cX6_told 41 = .ok (.iastore, 1) := by decide +kernel
theorem z103_41 {st : List Value} {w : pm_H} {pl : pm_L} {x0 : Nat} {x1 : Int32} {x2 : Int32} : pm_ev 103 41 pl (.int x2 :: .int x1 :: .ref x0 :: st) w = pm_kw 103 42 pl st (pm_is w x0 (w x0) x1 x2) := pm_nis pt_103 d103_41
theorem d103_42 : decode cX6_told 42 = .ok (.aload_n 0, 1) := by decide +kernel
theorem z103_42 {st : List Value} {w : pm_H} {b1 b2 b3 : Option Value} {x0 : Nat} : pm_ev 103 42 [some (.ref x0), b1, b2, b3] st w = pm_ev 103 43 [some (.ref x0), b1, b2, b3] (.ref x0 :: st) w := pm_ny pt_103 d103_42 rfl rfl rfl
theorem d103_43 : decode cX6_told 43 = .ok (.invokevirtual 114, 3) := by decide +kernel
theorem z103_43 {w : pm_H} {b0 b1 b2 b3 : Option Value} {x0 : Nat} : pm_ev 103 43 [b0, b1, b2, b3] [.ref x0] w = pm_k 103 46 [b0, b1, b2, b3] [] (pm_vc (w x0) 6 (pm_call 92 [.ref x0] w)) := pm_nv pt_103 pt_92 pt_M_6_114 d103_43 ⟨rfl, rfl⟩ ⟨⟨rfl, Nat.le_of_ble_eq_true rfl, Nat.le_of_ble_eq_true rfl, Nat.le_of_ble_eq_true rfl, Nat.le_of_ble_eq_true rfl⟩, rfl⟩
theorem d103_46 : decode cX6_told 46 = .ok (.iconst 1, 1) := by decide +kernel
theorem z103_46 {st : List Value} {w : pm_H} {pl : pm_L} : pm_ev 103 46 pl st w = pm_ev 103 47 pl (.int 1 :: st) w := pm_ny pt_103 d103_46 rfl rfl rfl
theorem d103_47 : decode cX6_told 47 = .ok (.ireturn, 1) := by decide +kernel
theorem z103_47 {w : pm_H} {pl : pm_L} {x0 : Int32} : pm_ev 103 47 pl [.int x0] w = pm_zr x0 w := pm_nz pt_103 d103_47
theorem d104_0 : decode cX6_readQuarter 0 = .ok (.aload_n 0, 1) := by decide +kernel
theorem z104_0 {st : List Value} {w : pm_H} {b1 b2 : Option Value} {x0 : Nat} : pm_ev 104 0 [some (.ref x0), b1, b2] st w = pm_ev 104 1 [some (.ref x0), b1, b2] (.ref x0 :: st) w := pm_ny pt_104 d104_0 rfl rfl rfl
theorem d104_1 : decode cX6_readQuarter 1 = .ok (.ldc2_w 48, 3) := by decide +kernel
theorem z104_1 {st : List Value} {w : pm_H} {pl : pm_L} : pm_ev 104 1 pl st w = pm_ev 104 4 pl (.long (27) :: st) w := pm_nk2 pt_104 pt_K_6_48 rfl d104_1
theorem d104_4 : decode cX6_readQuarter 4 = .ok (.bipush 113, 2) := by decide +kernel
theorem z104_4 {st : List Value} {w : pm_H} {pl : pm_L} : pm_ev 104 4 pl st w = pm_ev 104 6 pl (.int 113 :: st) w := pm_ny pt_104 d104_4 rfl rfl rfl
theorem d104_6 : decode cX6_readQuarter 6 = .ok (.bipush 117, 2) := by decide +kernel
theorem z104_6 {st : List Value} {w : pm_H} {pl : pm_L} : pm_ev 104 6 pl st w = pm_ev 104 8 pl (.int 117 :: st) w := pm_ny pt_104 d104_6 rfl rfl rfl
theorem d104_8 : decode cX6_readQuarter 8 = .ok (.bipush 97, 2) := by decide +kernel
theorem z104_8 {st : List Value} {w : pm_H} {pl : pm_L} : pm_ev 104 8 pl st w = pm_ev 104 10 pl (.int 97 :: st) w := pm_ny pt_104 d104_8 rfl rfl rfl
theorem d104_10 : decode cX6_readQuarter 10 = .ok (.bipush 114, 2) := by decide +kernel
theorem z104_10 {st : List Value} {w : pm_H} {pl : pm_L} : pm_ev 104 10 pl st w = pm_ev 104 12 pl (.int 114 :: st) w := pm_ny pt_104 d104_10 rfl rfl rfl
theorem d104_12 : decode cX6_readQuarter 12 = .ok (.bipush 116, 2) := by decide +kernel
theorem z104_12 {st : List Value} {w : pm_H} {pl : pm_L} : pm_ev 104 12 pl st w = pm_ev 104 14 pl (.int 116 :: st) w := pm_ny pt_104 d104_12 rfl rfl rfl
theorem d104_14 : decode cX6_readQuarter 14 = .ok (.bipush 101, 2) := by decide +kernel
theorem z104_14 {st : List Value} {w : pm_H} {pl : pm_L} : pm_ev 104 14 pl st w = pm_ev 104 16 pl (.int 101 :: st) w := pm_ny pt_104 d104_14 rfl rfl rfl
theorem d104_16 : decode cX6_readQuarter 16 = .ok (.invokestatic 60, 3) := by decide +kernel
theorem z104_16 {w : pm_H} {b0 b1 b2 : Option Value} {x0 : Int32} {x1 : Int32} {x2 : Int32} {x3 : Int32} {x4 : Int32} {x5 : Int32} {x6 : Int64} {x7 : Nat} : pm_ev 104 16 [b0, b1, b2] [.int x0, .int x1, .int x2, .int x3, .int x4, .int x5, .long x6, .ref x7] w = pm_k 104 19 [b0, b1, b2] [.long x6, .ref x7] (pm_call 99 [.int x5, .int x4, .int x3, .int x2, .int x1, .int x0] w) := pm_ns pt_104 pt_99 pt_M_6_60 (Or.inl rfl) d104_16 ⟨rfl, rfl⟩ ⟨⟨rfl, Nat.le_of_ble_eq_true rfl, Nat.le_of_ble_eq_true rfl, Nat.le_of_ble_eq_true rfl, Nat.le_of_ble_eq_true rfl⟩, rfl⟩
theorem d104_19 : decode cX6_readQuarter 19 = .ok (.lmul, 1) := by decide +kernel
theorem z104_19 {st : List Value} {w : pm_H} {pl : pm_L} {x0 x1 : Int64} : pm_ev 104 19 pl (.long x1 :: .long x0 :: st) w = pm_ev 104 20 pl (.long (x0 * x1) :: st) w := pm_ny pt_104 d104_19 rfl rfl rfl
theorem d104_20 : decode cX6_readQuarter 20 = .ok (.ldc2_w 121, 3) := by decide +kernel
theorem z104_20 {st : List Value} {w : pm_H} {pl : pm_L} : pm_ev 104 20 pl st w = pm_ev 104 23 pl (.long (18) :: st) w := pm_nk2 pt_104 pt_K_6_121 rfl d104_20
theorem d104_23 : decode cX6_readQuarter 23 = .ok (.ladd, 1) := by decide +kernel
theorem z104_23 {st : List Value} {w : pm_H} {pl : pm_L} {x0 x1 : Int64} : pm_ev 104 23 pl (.long x1 :: .long x0 :: st) w = pm_ev 104 24 pl (.long (x0 + x1) :: st) w := pm_ny pt_104 d104_23 rfl rfl rfl
theorem d104_24 : decode cX6_readQuarter 24 = .ok (.invokevirtual 64, 3) := by decide +kernel
theorem z104_24 {w : pm_H} {b0 b1 b2 : Option Value} {x0 : Int64} {x1 : Nat} : pm_ev 104 24 [b0, b1, b2] [.long x0, .ref x1] w = pm_k 104 27 [b0, b1, b2] [] (pm_vc (w x1) 6 (pm_call 101 [.ref x1, .long x0] w)) := pm_nv pt_104 pt_101 pt_M_6_64 d104_24 ⟨rfl, rfl⟩ ⟨⟨rfl, Nat.le_of_ble_eq_true rfl, Nat.le_of_ble_eq_true rfl, Nat.le_of_ble_eq_true rfl, Nat.le_of_ble_eq_true rfl⟩, rfl⟩
theorem d104_27 : decode cX6_readQuarter 27 = .ok (.ifCond .ne 9, 3) := by decide +kernel
theorem z104_27 {st : List Value} {w : pm_H} {pl : pm_L} {x0 : Int32} : pm_ev 104 27 pl (.int x0 :: st) w = if x0 = 0 then pm_ev 104 30 pl st w else pm_ev 104 36 pl st w := pm_nin (c := ¬ x0 = 0) pt_104 d104_27 rfl rfl rfl Iff.rfl
theorem d104_30 : decode cX6_readQuarter 30 = .ok (.aload_n 0, 1) := by decide +kernel
theorem z104_30 {st : List Value} {w : pm_H} {b1 b2 : Option Value} {x0 : Nat} : pm_ev 104 30 [some (.ref x0), b1, b2] st w = pm_ev 104 31 [some (.ref x0), b1, b2] (.ref x0 :: st) w := pm_ny pt_104 d104_30 rfl rfl rfl
theorem d104_31 : decode cX6_readQuarter 31 = .ok (.iconst 1, 1) := by decide +kernel
theorem z104_31 {st : List Value} {w : pm_H} {pl : pm_L} : pm_ev 104 31 pl st w = pm_ev 104 32 pl (.int 1 :: st) w := pm_ny pt_104 d104_31 rfl rfl rfl
theorem d104_32 : decode cX6_readQuarter 32 = .ok (.invokevirtual 107, 3) := by decide +kernel
theorem z104_32 {w : pm_H} {b0 b1 b2 : Option Value} {x0 : Int32} {x1 : Nat} : pm_ev 104 32 [b0, b1, b2] [.int x0, .ref x1] w = pm_k 104 35 [b0, b1, b2] [] (pm_vc (w x1) 6 (pm_call 102 [.ref x1, .int x0] w)) := pm_nv pt_104 pt_102 pt_M_6_107 d104_32 ⟨rfl, rfl⟩ ⟨⟨rfl, Nat.le_of_ble_eq_true rfl, Nat.le_of_ble_eq_true rfl, Nat.le_of_ble_eq_true rfl, Nat.le_of_ble_eq_true rfl⟩, rfl⟩
theorem d104_35 : decode cX6_readQuarter 35 = .ok (.ireturn, 1) := by decide +kernel
theorem z104_35 {w : pm_H} {pl : pm_L} {x0 : Int32} : pm_ev 104 35 pl [.int x0] w = pm_zr x0 w := pm_nz pt_104 d104_35
theorem d104_36 : decode cX6_readQuarter 36 = .ok (.aload_n 0, 1) := by decide +kernel
theorem z104_36 {st : List Value} {w : pm_H} {b1 b2 : Option Value} {x0 : Nat} : pm_ev 104 36 [some (.ref x0), b1, b2] st w = pm_ev 104 37 [some (.ref x0), b1, b2] (.ref x0 :: st) w := pm_ny pt_104 d104_36 rfl rfl rfl
theorem d104_37 : decode cX6_readQuarter 37 = .ok (.invokevirtual 114, 3) := by decide +kernel
theorem z104_37 {w : pm_H} {b0 b1 b2 : Option Value} {x0 : Nat} : pm_ev 104 37 [b0, b1, b2] [.ref x0] w = pm_k 104 40 [b0, b1, b2] [] (pm_vc (w x0) 6 (pm_call 92 [.ref x0] w)) := pm_nv pt_104 pt_92 pt_M_6_114 d104_37 ⟨rfl, rfl⟩ ⟨⟨rfl, Nat.le_of_ble_eq_true rfl, Nat.le_of_ble_eq_true rfl, Nat.le_of_ble_eq_true rfl, Nat.le_of_ble_eq_true rfl⟩, rfl⟩
theorem d104_40 : decode cX6_readQuarter 40 = .ok (.aload_n 0, 1) := by decide +kernel
theorem z104_40 {st : List Value} {w : pm_H} {b1 b2 : Option Value} {x0 : Nat} : pm_ev 104 40 [some (.ref x0), b1, b2] st w = pm_ev 104 41 [some (.ref x0), b1, b2] (.ref x0 :: st) w := pm_ny pt_104 d104_40 rfl rfl rfl
theorem d104_41 : decode cX6_readQuarter 41 = .ok (.invokevirtual 123, 3) := by decide +kernel
theorem z104_41 {w : pm_H} {b0 b1 b2 : Option Value} {x0 : Nat} : pm_ev 104 41 [b0, b1, b2] [.ref x0] w = pm_k 104 44 [b0, b1, b2] [] (pm_vc (w x0) 6 (pm_call 105 [.ref x0] w)) := pm_nv pt_104 pt_105 pt_M_6_123 d104_41 ⟨rfl, rfl⟩ ⟨⟨rfl, Nat.le_of_ble_eq_true rfl, Nat.le_of_ble_eq_true rfl, Nat.le_of_ble_eq_true rfl, Nat.le_of_ble_eq_true rfl⟩, rfl⟩
theorem d104_44 : decode cX6_readQuarter 44 = .ok (.istore_n 2, 1) := by decide +kernel
theorem z104_44 {st : List Value} {w : pm_H} {b0 b2 : Option Value} {x0 : Int32} {x9 : Int32} : pm_ev 104 44 [b0, some (.int x9), b2] (.int x0 :: st) w = pm_ev 104 45 [b0, some (.int x9), some (.int x0)] st w := pm_ny pt_104 d104_44 rfl rfl rfl
theorem d104_45 : decode cX6_readQuarter 45 = .ok (.iload_n 2, 1) := by decide +kernel
theorem z104_45 {st : List Value} {w : pm_H} {b0 b1 : Option Value} {x0 : Int32} : pm_ev 104 45 [b0, b1, some (.int x0)] st w = pm_ev 104 46 [b0, b1, some (.int x0)] (.int x0 :: st) w := pm_ny pt_104 d104_45 rfl rfl rfl
theorem d104_46 : decode cX6_readQuarter 46 = .ok (.ifCond .ne 27, 3) := by decide +kernel
theorem z104_46 {st : List Value} {w : pm_H} {pl : pm_L} {x0 : Int32} : pm_ev 104 46 pl (.int x0 :: st) w = if x0 = 0 then pm_ev 104 49 pl st w else pm_ev 104 73 pl st w := pm_nin (c := ¬ x0 = 0) pt_104 d104_46 rfl rfl rfl Iff.rfl
theorem d104_49 : decode cX6_readQuarter 49 = .ok (.aload_n 0, 1) := by decide +kernel
theorem z104_49 {st : List Value} {w : pm_H} {b1 b2 : Option Value} {x0 : Nat} : pm_ev 104 49 [some (.ref x0), b1, b2] st w = pm_ev 104 50 [some (.ref x0), b1, b2] (.ref x0 :: st) w := pm_ny pt_104 d104_49 rfl rfl rfl
theorem d104_50 : decode cX6_readQuarter 50 = .ok (.bipush 108, 2) := by decide +kernel
theorem z104_50 {st : List Value} {w : pm_H} {pl : pm_L} : pm_ev 104 50 pl st w = pm_ev 104 52 pl (.int 108 :: st) w := pm_ny pt_104 d104_50 rfl rfl rfl
theorem d104_52 : decode cX6_readQuarter 52 = .ok (.bipush 111, 2) := by decide +kernel
theorem z104_52 {st : List Value} {w : pm_H} {pl : pm_L} : pm_ev 104 52 pl st w = pm_ev 104 54 pl (.int 111 :: st) w := pm_ny pt_104 d104_52 rfl rfl rfl
theorem d104_54 : decode cX6_readQuarter 54 = .ok (.bipush 115, 2) := by decide +kernel
theorem z104_54 {st : List Value} {w : pm_H} {pl : pm_L} : pm_ev 104 54 pl st w = pm_ev 104 56 pl (.int 115 :: st) w := pm_ny pt_104 d104_54 rfl rfl rfl
theorem d104_56 : decode cX6_readQuarter 56 = .ok (.bipush 115, 2) := by decide +kernel
theorem z104_56 {st : List Value} {w : pm_H} {pl : pm_L} : pm_ev 104 56 pl st w = pm_ev 104 58 pl (.int 115 :: st) w := pm_ny pt_104 d104_56 rfl rfl rfl
theorem d104_58 : decode cX6_readQuarter 58 = .ok (.invokestatic 127, 3) := by decide +kernel
theorem z104_58 {w : pm_H} {b0 b1 b2 : Option Value} {x0 : Int32} {x1 : Int32} {x2 : Int32} {x3 : Int32} {x4 : Nat} : pm_ev 104 58 [b0, b1, b2] [.int x0, .int x1, .int x2, .int x3, .ref x4] w = pm_k 104 61 [b0, b1, b2] [.ref x4] (pm_call 106 [.int x3, .int x2, .int x1, .int x0] w) := pm_ns pt_104 pt_106 pt_M_6_127 (Or.inl rfl) d104_58 ⟨rfl, rfl⟩ ⟨⟨rfl, Nat.le_of_ble_eq_true rfl, Nat.le_of_ble_eq_true rfl, Nat.le_of_ble_eq_true rfl, Nat.le_of_ble_eq_true rfl⟩, rfl⟩
theorem d104_61 : decode cX6_readQuarter 61 = .ok (.invokevirtual 64, 3) := by decide +kernel
theorem z104_61 {w : pm_H} {b0 b1 b2 : Option Value} {x0 : Int64} {x1 : Nat} : pm_ev 104 61 [b0, b1, b2] [.long x0, .ref x1] w = pm_k 104 64 [b0, b1, b2] [] (pm_vc (w x1) 6 (pm_call 101 [.ref x1, .long x0] w)) := pm_nv pt_104 pt_101 pt_M_6_64 d104_61 ⟨rfl, rfl⟩ ⟨⟨rfl, Nat.le_of_ble_eq_true rfl, Nat.le_of_ble_eq_true rfl, Nat.le_of_ble_eq_true rfl, Nat.le_of_ble_eq_true rfl⟩, rfl⟩
theorem d104_64 : decode cX6_readQuarter 64 = .ok (.ifCond .ne 9, 3) := by decide +kernel
theorem z104_64 {st : List Value} {w : pm_H} {pl : pm_L} {x0 : Int32} : pm_ev 104 64 pl (.int x0 :: st) w = if x0 = 0 then pm_ev 104 67 pl st w else pm_ev 104 73 pl st w := pm_nin (c := ¬ x0 = 0) pt_104 d104_64 rfl rfl rfl Iff.rfl
theorem d104_67 : decode cX6_readQuarter 67 = .ok (.aload_n 0, 1) := by decide +kernel
theorem z104_67 {st : List Value} {w : pm_H} {b1 b2 : Option Value} {x0 : Nat} : pm_ev 104 67 [some (.ref x0), b1, b2] st w = pm_ev 104 68 [some (.ref x0), b1, b2] (.ref x0 :: st) w := pm_ny pt_104 d104_67 rfl rfl rfl
theorem d104_68 : decode cX6_readQuarter 68 = .ok (.iconst 1, 1) := by decide +kernel
theorem z104_68 {st : List Value} {w : pm_H} {pl : pm_L} : pm_ev 104 68 pl st w = pm_ev 104 69 pl (.int 1 :: st) w := pm_ny pt_104 d104_68 rfl rfl rfl
theorem d104_69 : decode cX6_readQuarter 69 = .ok (.invokevirtual 107, 3) := by decide +kernel
theorem z104_69 {w : pm_H} {b0 b1 b2 : Option Value} {x0 : Int32} {x1 : Nat} : pm_ev 104 69 [b0, b1, b2] [.int x0, .ref x1] w = pm_k 104 72 [b0, b1, b2] [] (pm_vc (w x1) 6 (pm_call 102 [.ref x1, .int x0] w)) := pm_nv pt_104 pt_102 pt_M_6_107 d104_69 ⟨rfl, rfl⟩ ⟨⟨rfl, Nat.le_of_ble_eq_true rfl, Nat.le_of_ble_eq_true rfl, Nat.le_of_ble_eq_true rfl, Nat.le_of_ble_eq_true rfl⟩, rfl⟩
theorem d104_72 : decode cX6_readQuarter 72 = .ok (.ireturn, 1) := by decide +kernel
theorem z104_72 {w : pm_H} {pl : pm_L} {x0 : Int32} : pm_ev 104 72 pl [.int x0] w = pm_zr x0 w := pm_nz pt_104 d104_72
theorem d104_73 : decode cX6_readQuarter 73 = .ok (.aload_n 0, 1) := by decide +kernel
theorem z104_73 {st : List Value} {w : pm_H} {b1 b2 : Option Value} {x0 : Nat} : pm_ev 104 73 [some (.ref x0), b1, b2] st w = pm_ev 104 74 [some (.ref x0), b1, b2] (.ref x0 :: st) w := pm_ny pt_104 d104_73 rfl rfl rfl
theorem d104_74 : decode cX6_readQuarter 74 = .ok (.invokevirtual 114, 3) := by decide +kernel
theorem z104_74 {w : pm_H} {b0 b1 b2 : Option Value} {x0 : Nat} : pm_ev 104 74 [b0, b1, b2] [.ref x0] w = pm_k 104 77 [b0, b1, b2] [] (pm_vc (w x0) 6 (pm_call 92 [.ref x0] w)) := pm_nv pt_104 pt_92 pt_M_6_114 d104_74 ⟨rfl, rfl⟩ ⟨⟨rfl, Nat.le_of_ble_eq_true rfl, Nat.le_of_ble_eq_true rfl, Nat.le_of_ble_eq_true rfl, Nat.le_of_ble_eq_true rfl⟩, rfl⟩
theorem d104_77 : decode cX6_readQuarter 77 = .ok (.aload_n 0, 1) := by decide +kernel
theorem z104_77 {st : List Value} {w : pm_H} {b1 b2 : Option Value} {x0 : Nat} : pm_ev 104 77 [some (.ref x0), b1, b2] st w = pm_ev 104 78 [some (.ref x0), b1, b2] (.ref x0 :: st) w := pm_ny pt_104 d104_77 rfl rfl rfl
theorem d104_78 : decode cX6_readQuarter 78 = .ok (.iconst 1, 1) := by decide +kernel
theorem z104_78 {st : List Value} {w : pm_H} {pl : pm_L} : pm_ev 104 78 pl st w = pm_ev 104 79 pl (.int 1 :: st) w := pm_ny pt_104 d104_78 rfl rfl rfl
theorem d104_79 : decode cX6_readQuarter 79 = .ok (.iconst 2, 1) := by decide +kernel
theorem z104_79 {st : List Value} {w : pm_H} {pl : pm_L} : pm_ev 104 79 pl st w = pm_ev 104 80 pl (.int 2 :: st) w := pm_ny pt_104 d104_79 rfl rfl rfl
theorem d104_80 : decode cX6_readQuarter 80 = .ok (.iload_n 1, 1) := by decide +kernel
theorem z104_80 {st : List Value} {w : pm_H} {b0 b2 : Option Value} {x0 : Int32} : pm_ev 104 80 [b0, some (.int x0), b2] st w = pm_ev 104 81 [b0, some (.int x0), b2] (.int x0 :: st) w := pm_ny pt_104 d104_80 rfl rfl rfl
theorem d104_81 : decode cX6_readQuarter 81 = .ok (.imul, 1) := by decide +kernel
theorem z104_81 {st : List Value} {w : pm_H} {pl : pm_L} {x0 x1 : Int32} : pm_ev 104 81 pl (.int x1 :: .int x0 :: st) w = pm_ev 104 82 pl (.int (x0 * x1) :: st) w := pm_ny pt_104 d104_81 rfl rfl rfl
theorem d104_82 : decode cX6_readQuarter 82 = .ok (.iadd, 1) := by decide +kernel
theorem z104_82 {st : List Value} {w : pm_H} {pl : pm_L} {x0 x1 : Int32} : pm_ev 104 82 pl (.int x1 :: .int x0 :: st) w = pm_ev 104 83 pl (.int (x0 + x1) :: st) w := pm_ny pt_104 d104_82 rfl rfl rfl
theorem d104_83 : decode cX6_readQuarter 83 = .ok (.iconst 0, 1) := by decide +kernel
theorem z104_83 {st : List Value} {w : pm_H} {pl : pm_L} : pm_ev 104 83 pl st w = pm_ev 104 84 pl (.int 0 :: st) w := pm_ny pt_104 d104_83 rfl rfl rfl
theorem d104_84 : decode cX6_readQuarter 84 = .ok (.ldc 117, 2) := by decide +kernel
theorem z104_84 {st : List Value} {w : pm_H} {pl : pm_L} : pm_ev 104 84 pl st w = pm_ev 104 86 pl (.int (99999) :: st) w := pm_nk pt_104 pt_K_6_117 (by decide) d104_84
theorem d104_86 : decode cX6_readQuarter 86 = .ok (.invokevirtual 118, 3) := by decide +kernel
theorem z104_86 {w : pm_H} {b0 b1 b2 : Option Value} {x0 : Int32} {x1 : Int32} {x2 : Int32} {x3 : Nat} : pm_ev 104 86 [b0, b1, b2] [.int x0, .int x1, .int x2, .ref x3] w = pm_k 104 89 [b0, b1, b2] [] (pm_vc (w x3) 6 (pm_call 103 [.ref x3, .int x2, .int x1, .int x0] w)) := pm_nv pt_104 pt_103 pt_M_6_118 d104_86 ⟨rfl, rfl⟩ ⟨⟨rfl, Nat.le_of_ble_eq_true rfl, Nat.le_of_ble_eq_true rfl, Nat.le_of_ble_eq_true rfl, Nat.le_of_ble_eq_true rfl⟩, rfl⟩
theorem d104_89 : decode cX6_readQuarter 89 = .ok (.ifCond .ne 5, 3) := by decide +kernel
theorem z104_89 {st : List Value} {w : pm_H} {pl : pm_L} {x0 : Int32} : pm_ev 104 89 pl (.int x0 :: st) w = if x0 = 0 then pm_ev 104 92 pl st w else pm_ev 104 94 pl st w := pm_nin (c := ¬ x0 = 0) pt_104 d104_89 rfl rfl rfl Iff.rfl
theorem d104_92 : decode cX6_readQuarter 92 = .ok (.iconst 0, 1) := by decide +kernel
theorem z104_92 {st : List Value} {w : pm_H} {pl : pm_L} : pm_ev 104 92 pl st w = pm_ev 104 93 pl (.int 0 :: st) w := pm_ny pt_104 d104_92 rfl rfl rfl
theorem d104_93 : decode cX6_readQuarter 93 = .ok (.ireturn, 1) := by decide +kernel
theorem z104_93 {w : pm_H} {pl : pm_L} {x0 : Int32} : pm_ev 104 93 pl [.int x0] w = pm_zr x0 w := pm_nz pt_104 d104_93
theorem d104_94 : decode cX6_readQuarter 94 = .ok (.iload_n 2, 1) := by decide +kernel
theorem z104_94 {st : List Value} {w : pm_H} {b0 b1 : Option Value} {x0 : Int32} : pm_ev 104 94 [b0, b1, some (.int x0)] st w = pm_ev 104 95 [b0, b1, some (.int x0)] (.int x0 :: st) w := pm_ny pt_104 d104_94 rfl rfl rfl
theorem d104_95 : decode cX6_readQuarter 95 = .ok (.ifCond .ne 24, 3) := by decide +kernel
theorem z104_95 {st : List Value} {w : pm_H} {pl : pm_L} {x0 : Int32} : pm_ev 104 95 pl (.int x0 :: st) w = if x0 = 0 then pm_ev 104 98 pl st w else pm_ev 104 119 pl st w := pm_nin (c := ¬ x0 = 0) pt_104 d104_95 rfl rfl rfl Iff.rfl
theorem d104_98 : decode cX6_readQuarter 98 = .ok (.aload_n 0, 1) := by decide +kernel
theorem z104_98 {st : List Value} {w : pm_H} {b1 b2 : Option Value} {x0 : Nat} : pm_ev 104 98 [some (.ref x0), b1, b2] st w = pm_ev 104 99 [some (.ref x0), b1, b2] (.ref x0 :: st) w := pm_ny pt_104 d104_98 rfl rfl rfl
theorem d104_99 : decode cX6_readQuarter 99 = .ok (.getfield 87, 3) := by decide +kernel
theorem z104_99 {st : List Value} {w : pm_H} {pl : pm_L} {x0 : Nat} : pm_ev 104 99 pl (.ref x0 :: st) w = pm_kv 104 102 pl st w (pm_gf (w x0) 6 12) := pm_ng pt_104 pt_F_6_87 d104_99
theorem d104_102 : decode cX6_readQuarter 102 = .ok (.iconst 1, 1) := by decide +kernel
theorem z104_102 {st : List Value} {w : pm_H} {pl : pm_L} : pm_ev 104 102 pl st w = pm_ev 104 103 pl (.int 1 :: st) w := pm_ny pt_104 d104_102 rfl rfl rfl
theorem d104_103 : decode cX6_readQuarter 103 = .ok (.iconst 2, 1) := by decide +kernel
theorem z104_103 {st : List Value} {w : pm_H} {pl : pm_L} : pm_ev 104 103 pl st w = pm_ev 104 104 pl (.int 2 :: st) w := pm_ny pt_104 d104_103 rfl rfl rfl
theorem d104_104 : decode cX6_readQuarter 104 = .ok (.iload_n 1, 1) := by decide +kernel
theorem z104_104 {st : List Value} {w : pm_H} {b0 b2 : Option Value} {x0 : Int32} : pm_ev 104 104 [b0, some (.int x0), b2] st w = pm_ev 104 105 [b0, some (.int x0), b2] (.int x0 :: st) w := pm_ny pt_104 d104_104 rfl rfl rfl
theorem d104_105 : decode cX6_readQuarter 105 = .ok (.imul, 1) := by decide +kernel
theorem z104_105 {st : List Value} {w : pm_H} {pl : pm_L} {x0 x1 : Int32} : pm_ev 104 105 pl (.int x1 :: .int x0 :: st) w = pm_ev 104 106 pl (.int (x0 * x1) :: st) w := pm_ny pt_104 d104_105 rfl rfl rfl
theorem d104_106 : decode cX6_readQuarter 106 = .ok (.iadd, 1) := by decide +kernel
theorem z104_106 {st : List Value} {w : pm_H} {pl : pm_L} {x0 x1 : Int32} : pm_ev 104 106 pl (.int x1 :: .int x0 :: st) w = pm_ev 104 107 pl (.int (x0 + x1) :: st) w := pm_ny pt_104 d104_106 rfl rfl rfl
theorem d104_107 : decode cX6_readQuarter 107 = .ok (.aload_n 0, 1) := by decide +kernel
theorem z104_107 {st : List Value} {w : pm_H} {b1 b2 : Option Value} {x0 : Nat} : pm_ev 104 107 [some (.ref x0), b1, b2] st w = pm_ev 104 108 [some (.ref x0), b1, b2] (.ref x0 :: st) w := pm_ny pt_104 d104_107 rfl rfl rfl
theorem d104_108 : decode cX6_readQuarter 108 = .ok (.getfield 87, 3) := by decide +kernel
theorem z104_108 {st : List Value} {w : pm_H} {pl : pm_L} {x0 : Nat} : pm_ev 104 108 pl (.ref x0 :: st) w = pm_kv 104 111 pl st w (pm_gf (w x0) 6 12) := pm_ng pt_104 pt_F_6_87 d104_108
theorem d104_111 : decode cX6_readQuarter 111 = .ok (.iconst 1, 1) := by decide +kernel
theorem z104_111 {st : List Value} {w : pm_H} {pl : pm_L} : pm_ev 104 111 pl st w = pm_ev 104 112 pl (.int 1 :: st) w := pm_ny pt_104 d104_111 rfl rfl rfl
theorem d104_112 : decode cX6_readQuarter 112 = .ok (.iconst 2, 1) := by decide +kernel
theorem z104_112 {st : List Value} {w : pm_H} {pl : pm_L} : pm_ev 104 112 pl st w = pm_ev 104 113 pl (.int 2 :: st) w := pm_ny pt_104 d104_112 rfl rfl rfl
theorem d104_113 : decode cX6_readQuarter 113 = .ok (.iload_n 1, 1) := by decide +kernel
theorem z104_113 {st : List Value} {w : pm_H} {b0 b2 : Option Value} {x0 : Int32} : pm_ev 104 113 [b0, some (.int x0), b2] st w = pm_ev 104 114 [b0, some (.int x0), b2] (.int x0 :: st) w := pm_ny pt_104 d104_113 rfl rfl rfl
theorem d104_114 : decode cX6_readQuarter 114 = .ok (.imul, 1) := by decide +kernel
theorem z104_114 {st : List Value} {w : pm_H} {pl : pm_L} {x0 x1 : Int32} : pm_ev 104 114 pl (.int x1 :: .int x0 :: st) w = pm_ev 104 115 pl (.int (x0 * x1) :: st) w := pm_ny pt_104 d104_114 rfl rfl rfl
theorem d104_115 : decode cX6_readQuarter 115 = .ok (.iadd, 1) := by decide +kernel
theorem z104_115 {st : List Value} {w : pm_H} {pl : pm_L} {x0 x1 : Int32} : pm_ev 104 115 pl (.int x1 :: .int x0 :: st) w = pm_ev 104 116 pl (.int (x0 + x1) :: st) w := pm_ny pt_104 d104_115 rfl rfl rfl
theorem d104_116 : decode cX6_readQuarter 116 = .ok (.iaload, 1) := by decide +kernel
theorem z104_116 {st : List Value} {w : pm_H} {pl : pm_L} {x0 : Nat} {x1 : Int32} : pm_ev 104 116 pl (.int x1 :: .ref x0 :: st) w = pm_kv 104 117 pl st w (pm_ia (w x0) 0 x1) := pm_nia pt_104 d104_116
theorem d104_117 : decode cX6_readQuarter 117 = .ok (.ineg, 1) := by decide +kernel
theorem z104_117 {st : List Value} {w : pm_H} {pl : pm_L} {x0 : Int32} : pm_ev 104 117 pl (.int x0 :: st) w = pm_ev 104 118 pl (.int (-x0) :: st) w := pm_ny pt_104 d104_117 rfl rfl rfl
theorem d104_118 : decode cX6_readQuarter 118 = .ok (.iastore, 1) := by decide +kernel
theorem z104_118 {st : List Value} {w : pm_H} {pl : pm_L} {x0 : Nat} {x1 : Int32} {x2 : Int32} : pm_ev 104 118 pl (.int x2 :: .int x1 :: .ref x0 :: st) w = pm_kw 104 119 pl st (pm_is w x0 (w x0) x1 x2) := pm_nis pt_104 d104_118
theorem d104_119 : decode cX6_readQuarter 119 = .ok (.aload_n 0, 1) := by decide +kernel
theorem z104_119 {st : List Value} {w : pm_H} {b1 b2 : Option Value} {x0 : Nat} : pm_ev 104 119 [some (.ref x0), b1, b2] st w = pm_ev 104 120 [some (.ref x0), b1, b2] (.ref x0 :: st) w := pm_ny pt_104 d104_119 rfl rfl rfl
theorem d104_120 : decode cX6_readQuarter 120 = .ok (.invokevirtual 131, 3) := by decide +kernel
theorem z104_120 {w : pm_H} {b0 b1 b2 : Option Value} {x0 : Nat} : pm_ev 104 120 [b0, b1, b2] [.ref x0] w = pm_k 104 123 [b0, b1, b2] [] (pm_vc (w x0) 6 (pm_call 107 [.ref x0] w)) := pm_nv pt_104 pt_107 pt_M_6_131 d104_120 ⟨rfl, rfl⟩ ⟨⟨rfl, Nat.le_of_ble_eq_true rfl, Nat.le_of_ble_eq_true rfl, Nat.le_of_ble_eq_true rfl, Nat.le_of_ble_eq_true rfl⟩, rfl⟩
theorem d104_123 : decode cX6_readQuarter 123 = .ok (.ifCond .ne 9, 3) := by decide +kernel
theorem z104_123 {st : List Value} {w : pm_H} {pl : pm_L} {x0 : Int32} : pm_ev 104 123 pl (.int x0 :: st) w = if x0 = 0 then pm_ev 104 126 pl st w else pm_ev 104 132 pl st w := pm_nin (c := ¬ x0 = 0) pt_104 d104_123 rfl rfl rfl Iff.rfl
theorem d104_126 : decode cX6_readQuarter 126 = .ok (.aload_n 0, 1) := by decide +kernel
theorem z104_126 {st : List Value} {w : pm_H} {b1 b2 : Option Value} {x0 : Nat} : pm_ev 104 126 [some (.ref x0), b1, b2] st w = pm_ev 104 127 [some (.ref x0), b1, b2] (.ref x0 :: st) w := pm_ny pt_104 d104_126 rfl rfl rfl
theorem d104_127 : decode cX6_readQuarter 127 = .ok (.iconst 1, 1) := by decide +kernel
theorem z104_127 {st : List Value} {w : pm_H} {pl : pm_L} : pm_ev 104 127 pl st w = pm_ev 104 128 pl (.int 1 :: st) w := pm_ny pt_104 d104_127 rfl rfl rfl
theorem d104_128 : decode cX6_readQuarter 128 = .ok (.invokevirtual 107, 3) := by decide +kernel
theorem z104_128 {w : pm_H} {b0 b1 b2 : Option Value} {x0 : Int32} {x1 : Nat} : pm_ev 104 128 [b0, b1, b2] [.int x0, .ref x1] w = pm_k 104 131 [b0, b1, b2] [] (pm_vc (w x1) 6 (pm_call 102 [.ref x1, .int x0] w)) := pm_nv pt_104 pt_102 pt_M_6_107 d104_128 ⟨rfl, rfl⟩ ⟨⟨rfl, Nat.le_of_ble_eq_true rfl, Nat.le_of_ble_eq_true rfl, Nat.le_of_ble_eq_true rfl, Nat.le_of_ble_eq_true rfl⟩, rfl⟩
theorem d104_131 : decode cX6_readQuarter 131 = .ok (.ireturn, 1) := by decide +kernel
theorem z104_131 {w : pm_H} {pl : pm_L} {x0 : Int32} : pm_ev 104 131 pl [.int x0] w = pm_zr x0 w := pm_nz pt_104 d104_131
theorem d104_132 : decode cX6_readQuarter 132 = .ok (.aload_n 0, 1) := by decide +kernel
theorem z104_132 {st : List Value} {w : pm_H} {b1 b2 : Option Value} {x0 : Nat} : pm_ev 104 132 [some (.ref x0), b1, b2] st w = pm_ev 104 133 [some (.ref x0), b1, b2] (.ref x0 :: st) w := pm_ny pt_104 d104_132 rfl rfl rfl
theorem d104_133 : decode cX6_readQuarter 133 = .ok (.invokevirtual 114, 3) := by decide +kernel
theorem z104_133 {w : pm_H} {b0 b1 b2 : Option Value} {x0 : Nat} : pm_ev 104 133 [b0, b1, b2] [.ref x0] w = pm_k 104 136 [b0, b1, b2] [] (pm_vc (w x0) 6 (pm_call 92 [.ref x0] w)) := pm_nv pt_104 pt_92 pt_M_6_114 d104_133 ⟨rfl, rfl⟩ ⟨⟨rfl, Nat.le_of_ble_eq_true rfl, Nat.le_of_ble_eq_true rfl, Nat.le_of_ble_eq_true rfl, Nat.le_of_ble_eq_true rfl⟩, rfl⟩
theorem d104_136 : decode cX6_readQuarter 136 = .ok (.aload_n 0, 1) := by decide +kernel
theorem z104_136 {st : List Value} {w : pm_H} {b1 b2 : Option Value} {x0 : Nat} : pm_ev 104 136 [some (.ref x0), b1, b2] st w = pm_ev 104 137 [some (.ref x0), b1, b2] (.ref x0 :: st) w := pm_ny pt_104 d104_136 rfl rfl rfl
theorem d104_137 : decode cX6_readQuarter 137 = .ok (.iconst 1, 1) := by decide +kernel
theorem z104_137 {st : List Value} {w : pm_H} {pl : pm_L} : pm_ev 104 137 pl st w = pm_ev 104 138 pl (.int 1 :: st) w := pm_ny pt_104 d104_137 rfl rfl rfl
theorem d104_138 : decode cX6_readQuarter 138 = .ok (.iconst 2, 1) := by decide +kernel
theorem z104_138 {st : List Value} {w : pm_H} {pl : pm_L} : pm_ev 104 138 pl st w = pm_ev 104 139 pl (.int 2 :: st) w := pm_ny pt_104 d104_138 rfl rfl rfl
theorem d104_139 : decode cX6_readQuarter 139 = .ok (.iload_n 1, 1) := by decide +kernel
theorem z104_139 {st : List Value} {w : pm_H} {b0 b2 : Option Value} {x0 : Int32} : pm_ev 104 139 [b0, some (.int x0), b2] st w = pm_ev 104 140 [b0, some (.int x0), b2] (.int x0 :: st) w := pm_ny pt_104 d104_139 rfl rfl rfl
theorem d104_140 : decode cX6_readQuarter 140 = .ok (.imul, 1) := by decide +kernel
theorem z104_140 {st : List Value} {w : pm_H} {pl : pm_L} {x0 x1 : Int32} : pm_ev 104 140 pl (.int x1 :: .int x0 :: st) w = pm_ev 104 141 pl (.int (x0 * x1) :: st) w := pm_ny pt_104 d104_140 rfl rfl rfl
theorem d104_141 : decode cX6_readQuarter 141 = .ok (.iadd, 1) := by decide +kernel
theorem z104_141 {st : List Value} {w : pm_H} {pl : pm_L} {x0 x1 : Int32} : pm_ev 104 141 pl (.int x1 :: .int x0 :: st) w = pm_ev 104 142 pl (.int (x0 + x1) :: st) w := pm_ny pt_104 d104_141 rfl rfl rfl
theorem d104_142 : decode cX6_readQuarter 142 = .ok (.iconst 1, 1) := by decide +kernel
theorem z104_142 {st : List Value} {w : pm_H} {pl : pm_L} : pm_ev 104 142 pl st w = pm_ev 104 143 pl (.int 1 :: st) w := pm_ny pt_104 d104_142 rfl rfl rfl
theorem d104_143 : decode cX6_readQuarter 143 = .ok (.iadd, 1) := by decide +kernel
theorem z104_143 {st : List Value} {w : pm_H} {pl : pm_L} {x0 x1 : Int32} : pm_ev 104 143 pl (.int x1 :: .int x0 :: st) w = pm_ev 104 144 pl (.int (x0 + x1) :: st) w := pm_ny pt_104 d104_143 rfl rfl rfl
theorem d104_144 : decode cX6_readQuarter 144 = .ok (.iconst 1, 1) := by decide +kernel
theorem z104_144 {st : List Value} {w : pm_H} {pl : pm_L} : pm_ev 104 144 pl st w = pm_ev 104 145 pl (.int 1 :: st) w := pm_ny pt_104 d104_144 rfl rfl rfl
theorem d104_145 : decode cX6_readQuarter 145 = .ok (.sipush 9999, 3) := by decide +kernel
theorem z104_145 {st : List Value} {w : pm_H} {pl : pm_L} : pm_ev 104 145 pl st w = pm_ev 104 148 pl (.int 9999 :: st) w := pm_ny pt_104 d104_145 rfl rfl rfl
theorem d104_148 : decode cX6_readQuarter 148 = .ok (.invokevirtual 118, 3) := by decide +kernel
theorem z104_148 {w : pm_H} {b0 b1 b2 : Option Value} {x0 : Int32} {x1 : Int32} {x2 : Int32} {x3 : Nat} : pm_ev 104 148 [b0, b1, b2] [.int x0, .int x1, .int x2, .ref x3] w = pm_k 104 151 [b0, b1, b2] [] (pm_vc (w x3) 6 (pm_call 103 [.ref x3, .int x2, .int x1, .int x0] w)) := pm_nv pt_104 pt_103 pt_M_6_118 d104_148 ⟨rfl, rfl⟩ ⟨⟨rfl, Nat.le_of_ble_eq_true rfl, Nat.le_of_ble_eq_true rfl, Nat.le_of_ble_eq_true rfl, Nat.le_of_ble_eq_true rfl⟩, rfl⟩
theorem d104_151 : decode cX6_readQuarter 151 = .ok (.ireturn, 1) := by decide +kernel
theorem z104_151 {w : pm_H} {pl : pm_L} {x0 : Int32} : pm_ev 104 151 pl [.int x0] w = pm_zr x0 w := pm_nz pt_104 d104_151
theorem d105_0 : decode cX6_isProfit 0 = .ok (.aload_n 0, 1) := by decide +kernel
theorem z105_0 {st : List Value} {w : pm_H}  {x0 : Nat} : pm_ev 105 0 [some (.ref x0)] st w = pm_ev 105 1 [some (.ref x0)] (.ref x0 :: st) w := pm_ny pt_105 d105_0 rfl rfl rfl
theorem d105_1 : decode cX6_isProfit 1 = .ok (.bipush 112, 2) := by decide +kernel
theorem z105_1 {st : List Value} {w : pm_H} {pl : pm_L} : pm_ev 105 1 pl st w = pm_ev 105 3 pl (.int 112 :: st) w := pm_ny pt_105 d105_1 rfl rfl rfl
theorem d105_3 : decode cX6_isProfit 3 = .ok (.bipush 114, 2) := by decide +kernel
theorem z105_3 {st : List Value} {w : pm_H} {pl : pm_L} : pm_ev 105 3 pl st w = pm_ev 105 5 pl (.int 114 :: st) w := pm_ny pt_105 d105_3 rfl rfl rfl
theorem d105_5 : decode cX6_isProfit 5 = .ok (.bipush 111, 2) := by decide +kernel
theorem z105_5 {st : List Value} {w : pm_H} {pl : pm_L} : pm_ev 105 5 pl st w = pm_ev 105 7 pl (.int 111 :: st) w := pm_ny pt_105 d105_5 rfl rfl rfl
theorem d105_7 : decode cX6_isProfit 7 = .ok (.bipush 102, 2) := by decide +kernel
theorem z105_7 {st : List Value} {w : pm_H} {pl : pm_L} : pm_ev 105 7 pl st w = pm_ev 105 9 pl (.int 102 :: st) w := pm_ny pt_105 d105_7 rfl rfl rfl
theorem d105_9 : decode cX6_isProfit 9 = .ok (.bipush 105, 2) := by decide +kernel
theorem z105_9 {st : List Value} {w : pm_H} {pl : pm_L} : pm_ev 105 9 pl st w = pm_ev 105 11 pl (.int 105 :: st) w := pm_ny pt_105 d105_9 rfl rfl rfl
theorem d105_11 : decode cX6_isProfit 11 = .ok (.bipush 116, 2) := by decide +kernel
theorem z105_11 {st : List Value} {w : pm_H} {pl : pm_L} : pm_ev 105 11 pl st w = pm_ev 105 13 pl (.int 116 :: st) w := pm_ny pt_105 d105_11 rfl rfl rfl
theorem d105_13 : decode cX6_isProfit 13 = .ok (.invokestatic 60, 3) := by decide +kernel
theorem z105_13 {w : pm_H} {b0 : Option Value} {x0 : Int32} {x1 : Int32} {x2 : Int32} {x3 : Int32} {x4 : Int32} {x5 : Int32} {x6 : Nat} : pm_ev 105 13 [b0] [.int x0, .int x1, .int x2, .int x3, .int x4, .int x5, .ref x6] w = pm_k 105 16 [b0] [.ref x6] (pm_call 99 [.int x5, .int x4, .int x3, .int x2, .int x1, .int x0] w) := pm_ns pt_105 pt_99 pt_M_6_60 (Or.inl rfl) d105_13 ⟨rfl, rfl⟩ ⟨⟨rfl, Nat.le_of_ble_eq_true rfl, Nat.le_of_ble_eq_true rfl, Nat.le_of_ble_eq_true rfl, Nat.le_of_ble_eq_true rfl⟩, rfl⟩
theorem d105_16 : decode cX6_isProfit 16 = .ok (.invokevirtual 64, 3) := by decide +kernel
theorem z105_16 {w : pm_H} {b0 : Option Value} {x0 : Int64} {x1 : Nat} : pm_ev 105 16 [b0] [.long x0, .ref x1] w = pm_k 105 19 [b0] [] (pm_vc (w x1) 6 (pm_call 101 [.ref x1, .long x0] w)) := pm_nv pt_105 pt_101 pt_M_6_64 d105_16 ⟨rfl, rfl⟩ ⟨⟨rfl, Nat.le_of_ble_eq_true rfl, Nat.le_of_ble_eq_true rfl, Nat.le_of_ble_eq_true rfl, Nat.le_of_ble_eq_true rfl⟩, rfl⟩
theorem d105_19 : decode cX6_isProfit 19 = .ok (.ireturn, 1) := by decide +kernel
theorem z105_19 {w : pm_H} {pl : pm_L} {x0 : Int32} : pm_ev 105 19 pl [.int x0] w = pm_zr x0 w := pm_nz pt_105 d105_19
theorem d106_0 : decode cX6_four 0 = .ok (.ldc2_w 48, 3) := by decide +kernel
theorem z106_0 {st : List Value} {w : pm_H} {pl : pm_L} : pm_ev 106 0 pl st w = pm_ev 106 3 pl (.long (27) :: st) w := pm_nk2 pt_106 pt_K_6_48 rfl d106_0
theorem d106_3 : decode cX6_four 3 = .ok (.iload_n 0, 1) := by decide +kernel
theorem z106_3 {st : List Value} {w : pm_H} {b1 b2 b3 : Option Value} {x0 : Int32} : pm_ev 106 3 [some (.int x0), b1, b2, b3] st w = pm_ev 106 4 [some (.int x0), b1, b2, b3] (.int x0 :: st) w := pm_ny pt_106 d106_3 rfl rfl rfl
theorem d106_4 : decode cX6_four 4 = .ok (.iload_n 1, 1) := by decide +kernel
theorem z106_4 {st : List Value} {w : pm_H} {b0 b2 b3 : Option Value} {x0 : Int32} : pm_ev 106 4 [b0, some (.int x0), b2, b3] st w = pm_ev 106 5 [b0, some (.int x0), b2, b3] (.int x0 :: st) w := pm_ny pt_106 d106_4 rfl rfl rfl
theorem d106_5 : decode cX6_four 5 = .ok (.iload_n 2, 1) := by decide +kernel
theorem z106_5 {st : List Value} {w : pm_H} {b0 b1 b3 : Option Value} {x0 : Int32} : pm_ev 106 5 [b0, b1, some (.int x0), b3] st w = pm_ev 106 6 [b0, b1, some (.int x0), b3] (.int x0 :: st) w := pm_ny pt_106 d106_5 rfl rfl rfl
theorem d106_6 : decode cX6_four 6 = .ok (.invokestatic 54, 3) := by decide +kernel
theorem z106_6 {w : pm_H} {b0 b1 b2 b3 : Option Value} {x0 : Int32} {x1 : Int32} {x2 : Int32} {x3 : Int64} : pm_ev 106 6 [b0, b1, b2, b3] [.int x0, .int x1, .int x2, .long x3] w = pm_k 106 9 [b0, b1, b2, b3] [.long x3] (pm_call 100 [.int x2, .int x1, .int x0] w) := pm_ns pt_106 pt_100 pt_M_6_54 (Or.inl rfl) d106_6 ⟨rfl, rfl⟩ ⟨⟨rfl, Nat.le_of_ble_eq_true rfl, Nat.le_of_ble_eq_true rfl, Nat.le_of_ble_eq_true rfl, Nat.le_of_ble_eq_true rfl⟩, rfl⟩
theorem d106_9 : decode cX6_four 9 = .ok (.lmul, 1) := by decide +kernel
theorem z106_9 {st : List Value} {w : pm_H} {pl : pm_L} {x0 x1 : Int64} : pm_ev 106 9 pl (.long x1 :: .long x0 :: st) w = pm_ev 106 10 pl (.long (x0 * x1) :: st) w := pm_ny pt_106 d106_9 rfl rfl rfl
theorem d106_10 : decode cX6_four 10 = .ok (.iload_n 3, 1) := by decide +kernel
theorem z106_10 {st : List Value} {w : pm_H} {b0 b1 b2 : Option Value} {x0 : Int32} : pm_ev 106 10 [b0, b1, b2, some (.int x0)] st w = pm_ev 106 11 [b0, b1, b2, some (.int x0)] (.int x0 :: st) w := pm_ny pt_106 d106_10 rfl rfl rfl
theorem d106_11 : decode cX6_four 11 = .ok (.i2l, 1) := by decide +kernel
theorem z106_11 {st : List Value} {w : pm_H} {pl : pm_L} {x0 : Int32} : pm_ev 106 11 pl (.int x0 :: st) w = pm_ev 106 12 pl (.long x0.toInt64 :: st) w := pm_ny pt_106 d106_11 rfl rfl rfl
theorem d106_12 : decode cX6_four 12 = .ok (.ladd, 1) := by decide +kernel
theorem z106_12 {st : List Value} {w : pm_H} {pl : pm_L} {x0 x1 : Int64} : pm_ev 106 12 pl (.long x1 :: .long x0 :: st) w = pm_ev 106 13 pl (.long (x0 + x1) :: st) w := pm_ny pt_106 d106_12 rfl rfl rfl
theorem d106_13 : decode cX6_four 13 = .ok (.ldc2_w 50, 3) := by decide +kernel
theorem z106_13 {st : List Value} {w : pm_H} {pl : pm_L} : pm_ev 106 13 pl st w = pm_ev 106 16 pl (.long (96) :: st) w := pm_nk2 pt_106 pt_K_6_50 rfl d106_13
theorem d106_16 : decode cX6_four 16 = .ok (.lsub, 1) := by decide +kernel
theorem z106_16 {st : List Value} {w : pm_H} {pl : pm_L} {x0 x1 : Int64} : pm_ev 106 16 pl (.long x1 :: .long x0 :: st) w = pm_ev 106 17 pl (.long (x0 - x1) :: st) w := pm_ny pt_106 d106_16 rfl rfl rfl
theorem d106_17 : decode cX6_four 17 = .ok (.lreturn, 1) := by decide +kernel
theorem z106_17 {w : pm_H} {pl : pm_L} {x0 : Int64} : pm_ev 106 17 pl [.long x0] w = some (some (.long x0), w) := pm_nr pt_106 d106_17 rfl
theorem d107_0 : decode cX6_isPrice 0 = .ok (.aload_n 0, 1) := by decide +kernel
theorem z107_0 {st : List Value} {w : pm_H}  {x0 : Nat} : pm_ev 107 0 [some (.ref x0)] st w = pm_ev 107 1 [some (.ref x0)] (.ref x0 :: st) w := pm_ny pt_107 d107_0 rfl rfl rfl
theorem d107_1 : decode cX6_isPrice 1 = .ok (.bipush 112, 2) := by decide +kernel
theorem z107_1 {st : List Value} {w : pm_H} {pl : pm_L} : pm_ev 107 1 pl st w = pm_ev 107 3 pl (.int 112 :: st) w := pm_ny pt_107 d107_1 rfl rfl rfl
theorem d107_3 : decode cX6_isPrice 3 = .ok (.bipush 114, 2) := by decide +kernel
theorem z107_3 {st : List Value} {w : pm_H} {pl : pm_L} : pm_ev 107 3 pl st w = pm_ev 107 5 pl (.int 114 :: st) w := pm_ny pt_107 d107_3 rfl rfl rfl
theorem d107_5 : decode cX6_isPrice 5 = .ok (.bipush 105, 2) := by decide +kernel
theorem z107_5 {st : List Value} {w : pm_H} {pl : pm_L} : pm_ev 107 5 pl st w = pm_ev 107 7 pl (.int 105 :: st) w := pm_ny pt_107 d107_5 rfl rfl rfl
theorem d107_7 : decode cX6_isPrice 7 = .ok (.bipush 99, 2) := by decide +kernel
theorem z107_7 {st : List Value} {w : pm_H} {pl : pm_L} : pm_ev 107 7 pl st w = pm_ev 107 9 pl (.int 99 :: st) w := pm_ny pt_107 d107_7 rfl rfl rfl
theorem d107_9 : decode cX6_isPrice 9 = .ok (.bipush 101, 2) := by decide +kernel
theorem z107_9 {st : List Value} {w : pm_H} {pl : pm_L} : pm_ev 107 9 pl st w = pm_ev 107 11 pl (.int 101 :: st) w := pm_ny pt_107 d107_9 rfl rfl rfl
theorem d107_11 : decode cX6_isPrice 11 = .ok (.invokestatic 68, 3) := by decide +kernel
theorem z107_11 {w : pm_H} {b0 : Option Value} {x0 : Int32} {x1 : Int32} {x2 : Int32} {x3 : Int32} {x4 : Int32} {x5 : Nat} : pm_ev 107 11 [b0] [.int x0, .int x1, .int x2, .int x3, .int x4, .ref x5] w = pm_k 107 14 [b0] [.ref x5] (pm_call 108 [.int x4, .int x3, .int x2, .int x1, .int x0] w) := pm_ns pt_107 pt_108 pt_M_6_68 (Or.inl rfl) d107_11 ⟨rfl, rfl⟩ ⟨⟨rfl, Nat.le_of_ble_eq_true rfl, Nat.le_of_ble_eq_true rfl, Nat.le_of_ble_eq_true rfl, Nat.le_of_ble_eq_true rfl⟩, rfl⟩
theorem d107_14 : decode cX6_isPrice 14 = .ok (.invokevirtual 64, 3) := by decide +kernel
theorem z107_14 {w : pm_H} {b0 : Option Value} {x0 : Int64} {x1 : Nat} : pm_ev 107 14 [b0] [.long x0, .ref x1] w = pm_k 107 17 [b0] [] (pm_vc (w x1) 6 (pm_call 101 [.ref x1, .long x0] w)) := pm_nv pt_107 pt_101 pt_M_6_64 d107_14 ⟨rfl, rfl⟩ ⟨⟨rfl, Nat.le_of_ble_eq_true rfl, Nat.le_of_ble_eq_true rfl, Nat.le_of_ble_eq_true rfl, Nat.le_of_ble_eq_true rfl⟩, rfl⟩
theorem d107_17 : decode cX6_isPrice 17 = .ok (.ireturn, 1) := by decide +kernel
theorem z107_17 {w : pm_H} {pl : pm_L} {x0 : Int32} : pm_ev 107 17 pl [.int x0] w = pm_zr x0 w := pm_nz pt_107 d107_17
theorem d108_0 : decode cX6_five 0 = .ok (.ldc2_w 58, 3) := by decide +kernel
theorem z108_0 {st : List Value} {w : pm_H} {pl : pm_L} : pm_ev 108 0 pl st w = pm_ev 108 3 pl (.long (729) :: st) w := pm_nk2 pt_108 pt_K_6_58 rfl d108_0
theorem d108_3 : decode cX6_five 3 = .ok (.iload_n 0, 1) := by decide +kernel
theorem z108_3 {st : List Value} {w : pm_H} {b1 b2 b3 b4 : Option Value} {x0 : Int32} : pm_ev 108 3 [some (.int x0), b1, b2, b3, b4] st w = pm_ev 108 4 [some (.int x0), b1, b2, b3, b4] (.int x0 :: st) w := pm_ny pt_108 d108_3 rfl rfl rfl
theorem d108_4 : decode cX6_five 4 = .ok (.iload_n 1, 1) := by decide +kernel
theorem z108_4 {st : List Value} {w : pm_H} {b0 b2 b3 b4 : Option Value} {x0 : Int32} : pm_ev 108 4 [b0, some (.int x0), b2, b3, b4] st w = pm_ev 108 5 [b0, some (.int x0), b2, b3, b4] (.int x0 :: st) w := pm_ny pt_108 d108_4 rfl rfl rfl
theorem d108_5 : decode cX6_five 5 = .ok (.iload_n 2, 1) := by decide +kernel
theorem z108_5 {st : List Value} {w : pm_H} {b0 b1 b3 b4 : Option Value} {x0 : Int32} : pm_ev 108 5 [b0, b1, some (.int x0), b3, b4] st w = pm_ev 108 6 [b0, b1, some (.int x0), b3, b4] (.int x0 :: st) w := pm_ny pt_108 d108_5 rfl rfl rfl
theorem d108_6 : decode cX6_five 6 = .ok (.invokestatic 54, 3) := by decide +kernel
theorem z108_6 {w : pm_H} {b0 b1 b2 b3 b4 : Option Value} {x0 : Int32} {x1 : Int32} {x2 : Int32} {x3 : Int64} : pm_ev 108 6 [b0, b1, b2, b3, b4] [.int x0, .int x1, .int x2, .long x3] w = pm_k 108 9 [b0, b1, b2, b3, b4] [.long x3] (pm_call 100 [.int x2, .int x1, .int x0] w) := pm_ns pt_108 pt_100 pt_M_6_54 (Or.inl rfl) d108_6 ⟨rfl, rfl⟩ ⟨⟨rfl, Nat.le_of_ble_eq_true rfl, Nat.le_of_ble_eq_true rfl, Nat.le_of_ble_eq_true rfl, Nat.le_of_ble_eq_true rfl⟩, rfl⟩
theorem d108_9 : decode cX6_five 9 = .ok (.lmul, 1) := by decide +kernel
theorem z108_9 {st : List Value} {w : pm_H} {pl : pm_L} {x0 x1 : Int64} : pm_ev 108 9 pl (.long x1 :: .long x0 :: st) w = pm_ev 108 10 pl (.long (x0 * x1) :: st) w := pm_ny pt_108 d108_9 rfl rfl rfl
theorem d108_10 : decode cX6_five 10 = .ok (.ldc2_w 48, 3) := by decide +kernel
theorem z108_10 {st : List Value} {w : pm_H} {pl : pm_L} : pm_ev 108 10 pl st w = pm_ev 108 13 pl (.long (27) :: st) w := pm_nk2 pt_108 pt_K_6_48 rfl d108_10
theorem d108_13 : decode cX6_five 13 = .ok (.iload_n 3, 1) := by decide +kernel
theorem z108_13 {st : List Value} {w : pm_H} {b0 b1 b2 b4 : Option Value} {x0 : Int32} : pm_ev 108 13 [b0, b1, b2, some (.int x0), b4] st w = pm_ev 108 14 [b0, b1, b2, some (.int x0), b4] (.int x0 :: st) w := pm_ny pt_108 d108_13 rfl rfl rfl
theorem d108_14 : decode cX6_five 14 = .ok (.i2l, 1) := by decide +kernel
theorem z108_14 {st : List Value} {w : pm_H} {pl : pm_L} {x0 : Int32} : pm_ev 108 14 pl (.int x0 :: st) w = pm_ev 108 15 pl (.long x0.toInt64 :: st) w := pm_ny pt_108 d108_14 rfl rfl rfl
theorem d108_15 : decode cX6_five 15 = .ok (.ldc2_w 50, 3) := by decide +kernel
theorem z108_15 {st : List Value} {w : pm_H} {pl : pm_L} : pm_ev 108 15 pl st w = pm_ev 108 18 pl (.long (96) :: st) w := pm_nk2 pt_108 pt_K_6_50 rfl d108_15
theorem d108_18 : decode cX6_five 18 = .ok (.lsub, 1) := by decide +kernel
theorem z108_18 {st : List Value} {w : pm_H} {pl : pm_L} {x0 x1 : Int64} : pm_ev 108 18 pl (.long x1 :: .long x0 :: st) w = pm_ev 108 19 pl (.long (x0 - x1) :: st) w := pm_ny pt_108 d108_18 rfl rfl rfl
theorem d108_19 : decode cX6_five 19 = .ok (.lmul, 1) := by decide +kernel
theorem z108_19 {st : List Value} {w : pm_H} {pl : pm_L} {x0 x1 : Int64} : pm_ev 108 19 pl (.long x1 :: .long x0 :: st) w = pm_ev 108 20 pl (.long (x0 * x1) :: st) w := pm_ny pt_108 d108_19 rfl rfl rfl
theorem d108_20 : decode cX6_five 20 = .ok (.ladd, 1) := by decide +kernel
theorem z108_20 {st : List Value} {w : pm_H} {pl : pm_L} {x0 x1 : Int64} : pm_ev 108 20 pl (.long x1 :: .long x0 :: st) w = pm_ev 108 21 pl (.long (x0 + x1) :: st) w := pm_ny pt_108 d108_20 rfl rfl rfl
theorem d108_21 : decode cX6_five 21 = .ok (.iload 4, 2) := by decide +kernel
theorem z108_21 {st : List Value} {w : pm_H} {b0 b1 b2 b3 : Option Value} {x0 : Int32} : pm_ev 108 21 [b0, b1, b2, b3, some (.int x0)] st w = pm_ev 108 23 [b0, b1, b2, b3, some (.int x0)] (.int x0 :: st) w := pm_ny pt_108 d108_21 rfl rfl rfl
theorem d108_23 : decode cX6_five 23 = .ok (.i2l, 1) := by decide +kernel
theorem z108_23 {st : List Value} {w : pm_H} {pl : pm_L} {x0 : Int32} : pm_ev 108 23 pl (.int x0 :: st) w = pm_ev 108 24 pl (.long x0.toInt64 :: st) w := pm_ny pt_108 d108_23 rfl rfl rfl
theorem d108_24 : decode cX6_five 24 = .ok (.ladd, 1) := by decide +kernel
theorem z108_24 {st : List Value} {w : pm_H} {pl : pm_L} {x0 x1 : Int64} : pm_ev 108 24 pl (.long x1 :: .long x0 :: st) w = pm_ev 108 25 pl (.long (x0 + x1) :: st) w := pm_ny pt_108 d108_24 rfl rfl rfl
theorem d108_25 : decode cX6_five 25 = .ok (.ldc2_w 50, 3) := by decide +kernel
theorem z108_25 {st : List Value} {w : pm_H} {pl : pm_L} : pm_ev 108 25 pl st w = pm_ev 108 28 pl (.long (96) :: st) w := pm_nk2 pt_108 pt_K_6_50 rfl d108_25
theorem d108_28 : decode cX6_five 28 = .ok (.lsub, 1) := by decide +kernel
theorem z108_28 {st : List Value} {w : pm_H} {pl : pm_L} {x0 x1 : Int64} : pm_ev 108 28 pl (.long x1 :: .long x0 :: st) w = pm_ev 108 29 pl (.long (x0 - x1) :: st) w := pm_ny pt_108 d108_28 rfl rfl rfl
theorem d108_29 : decode cX6_five 29 = .ok (.lreturn, 1) := by decide +kernel
theorem z108_29 {w : pm_H} {pl : pm_L} {x0 : Int64} : pm_ev 108 29 pl [.long x0] w = some (some (.long x0), w) := pm_nr pt_108 d108_29 rfl
theorem d109_0 : decode cX6_readOther 0 = .ok (.aload_n 0, 1) := by decide +kernel
theorem z109_0 {st : List Value} {w : pm_H}  {x0 : Nat} : pm_ev 109 0 [some (.ref x0)] st w = pm_ev 109 1 [some (.ref x0)] (.ref x0 :: st) w := pm_ny pt_109 d109_0 rfl rfl rfl
theorem d109_1 : decode cX6_readOther 1 = .ok (.bipush 105, 2) := by decide +kernel
theorem z109_1 {st : List Value} {w : pm_H} {pl : pm_L} : pm_ev 109 1 pl st w = pm_ev 109 3 pl (.int 105 :: st) w := pm_ny pt_109 d109_1 rfl rfl rfl
theorem d109_3 : decode cX6_readOther 3 = .ok (.bipush 115, 2) := by decide +kernel
theorem z109_3 {st : List Value} {w : pm_H} {pl : pm_L} : pm_ev 109 3 pl st w = pm_ev 109 5 pl (.int 115 :: st) w := pm_ny pt_109 d109_3 rfl rfl rfl
theorem d109_5 : decode cX6_readOther 5 = .ok (.bipush 115, 2) := by decide +kernel
theorem z109_5 {st : List Value} {w : pm_H} {pl : pm_L} : pm_ev 109 5 pl st w = pm_ev 109 7 pl (.int 115 :: st) w := pm_ny pt_109 d109_5 rfl rfl rfl
theorem d109_7 : decode cX6_readOther 7 = .ok (.bipush 117, 2) := by decide +kernel
theorem z109_7 {st : List Value} {w : pm_H} {pl : pm_L} : pm_ev 109 7 pl st w = pm_ev 109 9 pl (.int 117 :: st) w := pm_ny pt_109 d109_7 rfl rfl rfl
theorem d109_9 : decode cX6_readOther 9 = .ok (.bipush 101, 2) := by decide +kernel
theorem z109_9 {st : List Value} {w : pm_H} {pl : pm_L} : pm_ev 109 9 pl st w = pm_ev 109 11 pl (.int 101 :: st) w := pm_ny pt_109 d109_9 rfl rfl rfl
theorem d109_11 : decode cX6_readOther 11 = .ok (.invokestatic 68, 3) := by decide +kernel
theorem z109_11 {w : pm_H} {b0 : Option Value} {x0 : Int32} {x1 : Int32} {x2 : Int32} {x3 : Int32} {x4 : Int32} {x5 : Nat} : pm_ev 109 11 [b0] [.int x0, .int x1, .int x2, .int x3, .int x4, .ref x5] w = pm_k 109 14 [b0] [.ref x5] (pm_call 108 [.int x4, .int x3, .int x2, .int x1, .int x0] w) := pm_ns pt_109 pt_108 pt_M_6_68 (Or.inl rfl) d109_11 ⟨rfl, rfl⟩ ⟨⟨rfl, Nat.le_of_ble_eq_true rfl, Nat.le_of_ble_eq_true rfl, Nat.le_of_ble_eq_true rfl, Nat.le_of_ble_eq_true rfl⟩, rfl⟩
theorem d109_14 : decode cX6_readOther 14 = .ok (.invokevirtual 64, 3) := by decide +kernel
theorem z109_14 {w : pm_H} {b0 : Option Value} {x0 : Int64} {x1 : Nat} : pm_ev 109 14 [b0] [.long x0, .ref x1] w = pm_k 109 17 [b0] [] (pm_vc (w x1) 6 (pm_call 101 [.ref x1, .long x0] w)) := pm_nv pt_109 pt_101 pt_M_6_64 d109_14 ⟨rfl, rfl⟩ ⟨⟨rfl, Nat.le_of_ble_eq_true rfl, Nat.le_of_ble_eq_true rfl, Nat.le_of_ble_eq_true rfl, Nat.le_of_ble_eq_true rfl⟩, rfl⟩
theorem d109_17 : decode cX6_readOther 17 = .ok (.ifCond .eq 9, 3) := by decide +kernel
theorem z109_17 {st : List Value} {w : pm_H} {pl : pm_L} {x0 : Int32} : pm_ev 109 17 pl (.int x0 :: st) w = if x0 = 0 then pm_ev 109 26 pl st w else pm_ev 109 20 pl st w := pm_nif pt_109 d109_17 rfl rfl rfl
theorem d109_20 : decode cX6_readOther 20 = .ok (.aload_n 0, 1) := by decide +kernel
theorem z109_20 {st : List Value} {w : pm_H}  {x0 : Nat} : pm_ev 109 20 [some (.ref x0)] st w = pm_ev 109 21 [some (.ref x0)] (.ref x0 :: st) w := pm_ny pt_109 d109_20 rfl rfl rfl
theorem d109_21 : decode cX6_readOther 21 = .ok (.iconst 0, 1) := by decide +kernel
theorem z109_21 {st : List Value} {w : pm_H} {pl : pm_L} : pm_ev 109 21 pl st w = pm_ev 109 22 pl (.int 0 :: st) w := pm_ny pt_109 d109_21 rfl rfl rfl
theorem d109_22 : decode cX6_readOther 22 = .ok (.invokevirtual 151, 3) := by decide +kernel
theorem z109_22 {w : pm_H} {b0 : Option Value} {x0 : Int32} {x1 : Nat} : pm_ev 109 22 [b0] [.int x0, .ref x1] w = pm_k 109 25 [b0] [] (pm_vc (w x1) 6 (pm_call 110 [.ref x1, .int x0] w)) := pm_nv pt_109 pt_110 pt_M_6_151 d109_22 ⟨rfl, rfl⟩ ⟨⟨rfl, Nat.le_of_ble_eq_true rfl, Nat.le_of_ble_eq_true rfl, Nat.le_of_ble_eq_true rfl, Nat.le_of_ble_eq_true rfl⟩, rfl⟩
theorem d109_25 : decode cX6_readOther 25 = .ok (.ireturn, 1) := by decide +kernel
theorem z109_25 {w : pm_H} {pl : pm_L} {x0 : Int32} : pm_ev 109 25 pl [.int x0] w = pm_zr x0 w := pm_nz pt_109 d109_25
theorem d109_26 : decode cX6_readOther 26 = .ok (.aload_n 0, 1) := by decide +kernel
theorem z109_26 {st : List Value} {w : pm_H}  {x0 : Nat} : pm_ev 109 26 [some (.ref x0)] st w = pm_ev 109 27 [some (.ref x0)] (.ref x0 :: st) w := pm_ny pt_109 d109_26 rfl rfl rfl
theorem d109_27 : decode cX6_readOther 27 = .ok (.bipush 98, 2) := by decide +kernel
theorem z109_27 {st : List Value} {w : pm_H} {pl : pm_L} : pm_ev 109 27 pl st w = pm_ev 109 29 pl (.int 98 :: st) w := pm_ny pt_109 d109_27 rfl rfl rfl
theorem d109_29 : decode cX6_readOther 29 = .ok (.bipush 117, 2) := by decide +kernel
theorem z109_29 {st : List Value} {w : pm_H} {pl : pm_L} : pm_ev 109 29 pl st w = pm_ev 109 31 pl (.int 117 :: st) w := pm_ny pt_109 d109_29 rfl rfl rfl
theorem d109_31 : decode cX6_readOther 31 = .ok (.bipush 121, 2) := by decide +kernel
theorem z109_31 {st : List Value} {w : pm_H} {pl : pm_L} : pm_ev 109 31 pl st w = pm_ev 109 33 pl (.int 121 :: st) w := pm_ny pt_109 d109_31 rfl rfl rfl
theorem d109_33 : decode cX6_readOther 33 = .ok (.invokestatic 54, 3) := by decide +kernel
theorem z109_33 {w : pm_H} {b0 : Option Value} {x0 : Int32} {x1 : Int32} {x2 : Int32} {x3 : Nat} : pm_ev 109 33 [b0] [.int x0, .int x1, .int x2, .ref x3] w = pm_k 109 36 [b0] [.ref x3] (pm_call 100 [.int x2, .int x1, .int x0] w) := pm_ns pt_109 pt_100 pt_M_6_54 (Or.inl rfl) d109_33 ⟨rfl, rfl⟩ ⟨⟨rfl, Nat.le_of_ble_eq_true rfl, Nat.le_of_ble_eq_true rfl, Nat.le_of_ble_eq_true rfl, Nat.le_of_ble_eq_true rfl⟩, rfl⟩
theorem d109_36 : decode cX6_readOther 36 = .ok (.invokevirtual 64, 3) := by decide +kernel
theorem z109_36 {w : pm_H} {b0 : Option Value} {x0 : Int64} {x1 : Nat} : pm_ev 109 36 [b0] [.long x0, .ref x1] w = pm_k 109 39 [b0] [] (pm_vc (w x1) 6 (pm_call 101 [.ref x1, .long x0] w)) := pm_nv pt_109 pt_101 pt_M_6_64 d109_36 ⟨rfl, rfl⟩ ⟨⟨rfl, Nat.le_of_ble_eq_true rfl, Nat.le_of_ble_eq_true rfl, Nat.le_of_ble_eq_true rfl, Nat.le_of_ble_eq_true rfl⟩, rfl⟩
theorem d109_39 : decode cX6_readOther 39 = .ok (.ifCond .eq 9, 3) := by decide +kernel
theorem z109_39 {st : List Value} {w : pm_H} {pl : pm_L} {x0 : Int32} : pm_ev 109 39 pl (.int x0 :: st) w = if x0 = 0 then pm_ev 109 48 pl st w else pm_ev 109 42 pl st w := pm_nif pt_109 d109_39 rfl rfl rfl
theorem d109_42 : decode cX6_readOther 42 = .ok (.aload_n 0, 1) := by decide +kernel
theorem z109_42 {st : List Value} {w : pm_H}  {x0 : Nat} : pm_ev 109 42 [some (.ref x0)] st w = pm_ev 109 43 [some (.ref x0)] (.ref x0 :: st) w := pm_ny pt_109 d109_42 rfl rfl rfl
theorem d109_43 : decode cX6_readOther 43 = .ok (.iconst 1, 1) := by decide +kernel
theorem z109_43 {st : List Value} {w : pm_H} {pl : pm_L} : pm_ev 109 43 pl st w = pm_ev 109 44 pl (.int 1 :: st) w := pm_ny pt_109 d109_43 rfl rfl rfl
theorem d109_44 : decode cX6_readOther 44 = .ok (.invokevirtual 151, 3) := by decide +kernel
theorem z109_44 {w : pm_H} {b0 : Option Value} {x0 : Int32} {x1 : Nat} : pm_ev 109 44 [b0] [.int x0, .ref x1] w = pm_k 109 47 [b0] [] (pm_vc (w x1) 6 (pm_call 110 [.ref x1, .int x0] w)) := pm_nv pt_109 pt_110 pt_M_6_151 d109_44 ⟨rfl, rfl⟩ ⟨⟨rfl, Nat.le_of_ble_eq_true rfl, Nat.le_of_ble_eq_true rfl, Nat.le_of_ble_eq_true rfl, Nat.le_of_ble_eq_true rfl⟩, rfl⟩
theorem d109_47 : decode cX6_readOther 47 = .ok (.ireturn, 1) := by decide +kernel
theorem z109_47 {w : pm_H} {pl : pm_L} {x0 : Int32} : pm_ev 109 47 pl [.int x0] w = pm_zr x0 w := pm_nz pt_109 d109_47
theorem d109_48 : decode cX6_readOther 48 = .ok (.aload_n 0, 1) := by decide +kernel
theorem z109_48 {st : List Value} {w : pm_H}  {x0 : Nat} : pm_ev 109 48 [some (.ref x0)] st w = pm_ev 109 49 [some (.ref x0)] (.ref x0 :: st) w := pm_ny pt_109 d109_48 rfl rfl rfl
theorem d109_49 : decode cX6_readOther 49 = .ok (.bipush 115, 2) := by decide +kernel
theorem z109_49 {st : List Value} {w : pm_H} {pl : pm_L} : pm_ev 109 49 pl st w = pm_ev 109 51 pl (.int 115 :: st) w := pm_ny pt_109 d109_49 rfl rfl rfl
theorem d109_51 : decode cX6_readOther 51 = .ok (.bipush 112, 2) := by decide +kernel
theorem z109_51 {st : List Value} {w : pm_H} {pl : pm_L} : pm_ev 109 51 pl st w = pm_ev 109 53 pl (.int 112 :: st) w := pm_ny pt_109 d109_51 rfl rfl rfl
theorem d109_53 : decode cX6_readOther 53 = .ok (.bipush 108, 2) := by decide +kernel
theorem z109_53 {st : List Value} {w : pm_H} {pl : pm_L} : pm_ev 109 53 pl st w = pm_ev 109 55 pl (.int 108 :: st) w := pm_ny pt_109 d109_53 rfl rfl rfl
theorem d109_55 : decode cX6_readOther 55 = .ok (.bipush 105, 2) := by decide +kernel
theorem z109_55 {st : List Value} {w : pm_H} {pl : pm_L} : pm_ev 109 55 pl st w = pm_ev 109 57 pl (.int 105 :: st) w := pm_ny pt_109 d109_55 rfl rfl rfl
theorem d109_57 : decode cX6_readOther 57 = .ok (.bipush 116, 2) := by decide +kernel
theorem z109_57 {st : List Value} {w : pm_H} {pl : pm_L} : pm_ev 109 57 pl st w = pm_ev 109 59 pl (.int 116 :: st) w := pm_ny pt_109 d109_57 rfl rfl rfl
theorem d109_59 : decode cX6_readOther 59 = .ok (.invokestatic 68, 3) := by decide +kernel
theorem z109_59 {w : pm_H} {b0 : Option Value} {x0 : Int32} {x1 : Int32} {x2 : Int32} {x3 : Int32} {x4 : Int32} {x5 : Nat} : pm_ev 109 59 [b0] [.int x0, .int x1, .int x2, .int x3, .int x4, .ref x5] w = pm_k 109 62 [b0] [.ref x5] (pm_call 108 [.int x4, .int x3, .int x2, .int x1, .int x0] w) := pm_ns pt_109 pt_108 pt_M_6_68 (Or.inl rfl) d109_59 ⟨rfl, rfl⟩ ⟨⟨rfl, Nat.le_of_ble_eq_true rfl, Nat.le_of_ble_eq_true rfl, Nat.le_of_ble_eq_true rfl, Nat.le_of_ble_eq_true rfl⟩, rfl⟩
theorem d109_62 : decode cX6_readOther 62 = .ok (.invokevirtual 64, 3) := by decide +kernel
theorem z109_62 {w : pm_H} {b0 : Option Value} {x0 : Int64} {x1 : Nat} : pm_ev 109 62 [b0] [.long x0, .ref x1] w = pm_k 109 65 [b0] [] (pm_vc (w x1) 6 (pm_call 101 [.ref x1, .long x0] w)) := pm_nv pt_109 pt_101 pt_M_6_64 d109_62 ⟨rfl, rfl⟩ ⟨⟨rfl, Nat.le_of_ble_eq_true rfl, Nat.le_of_ble_eq_true rfl, Nat.le_of_ble_eq_true rfl, Nat.le_of_ble_eq_true rfl⟩, rfl⟩
theorem d109_65 : decode cX6_readOther 65 = .ok (.ifCond .eq 9, 3) := by decide +kernel
theorem z109_65 {st : List Value} {w : pm_H} {pl : pm_L} {x0 : Int32} : pm_ev 109 65 pl (.int x0 :: st) w = if x0 = 0 then pm_ev 109 74 pl st w else pm_ev 109 68 pl st w := pm_nif pt_109 d109_65 rfl rfl rfl
theorem d109_68 : decode cX6_readOther 68 = .ok (.aload_n 0, 1) := by decide +kernel
theorem z109_68 {st : List Value} {w : pm_H}  {x0 : Nat} : pm_ev 109 68 [some (.ref x0)] st w = pm_ev 109 69 [some (.ref x0)] (.ref x0 :: st) w := pm_ny pt_109 d109_68 rfl rfl rfl
theorem d109_69 : decode cX6_readOther 69 = .ok (.iconst 2, 1) := by decide +kernel
theorem z109_69 {st : List Value} {w : pm_H} {pl : pm_L} : pm_ev 109 69 pl st w = pm_ev 109 70 pl (.int 2 :: st) w := pm_ny pt_109 d109_69 rfl rfl rfl
theorem d109_70 : decode cX6_readOther 70 = .ok (.invokevirtual 151, 3) := by decide +kernel
theorem z109_70 {w : pm_H} {b0 : Option Value} {x0 : Int32} {x1 : Nat} : pm_ev 109 70 [b0] [.int x0, .ref x1] w = pm_k 109 73 [b0] [] (pm_vc (w x1) 6 (pm_call 110 [.ref x1, .int x0] w)) := pm_nv pt_109 pt_110 pt_M_6_151 d109_70 ⟨rfl, rfl⟩ ⟨⟨rfl, Nat.le_of_ble_eq_true rfl, Nat.le_of_ble_eq_true rfl, Nat.le_of_ble_eq_true rfl, Nat.le_of_ble_eq_true rfl⟩, rfl⟩
theorem d109_73 : decode cX6_readOther 73 = .ok (.ireturn, 1) := by decide +kernel
theorem z109_73 {w : pm_H} {pl : pm_L} {x0 : Int32} : pm_ev 109 73 pl [.int x0] w = pm_zr x0 w := pm_nz pt_109 d109_73
theorem d109_74 : decode cX6_readOther 74 = .ok (.aload_n 0, 1) := by decide +kernel
theorem z109_74 {st : List Value} {w : pm_H}  {x0 : Nat} : pm_ev 109 74 [some (.ref x0)] st w = pm_ev 109 75 [some (.ref x0)] (.ref x0 :: st) w := pm_ny pt_109 d109_74 rfl rfl rfl
theorem d109_75 : decode cX6_readOther 75 = .ok (.bipush 111, 2) := by decide +kernel
theorem z109_75 {st : List Value} {w : pm_H} {pl : pm_L} : pm_ev 109 75 pl st w = pm_ev 109 77 pl (.int 111 :: st) w := pm_ny pt_109 d109_75 rfl rfl rfl
theorem d109_77 : decode cX6_readOther 77 = .ok (.bipush 112, 2) := by decide +kernel
theorem z109_77 {st : List Value} {w : pm_H} {pl : pm_L} : pm_ev 109 77 pl st w = pm_ev 109 79 pl (.int 112 :: st) w := pm_ny pt_109 d109_77 rfl rfl rfl
theorem d109_79 : decode cX6_readOther 79 = .ok (.bipush 116, 2) := by decide +kernel
theorem z109_79 {st : List Value} {w : pm_H} {pl : pm_L} : pm_ev 109 79 pl st w = pm_ev 109 81 pl (.int 116 :: st) w := pm_ny pt_109 d109_79 rfl rfl rfl
theorem d109_81 : decode cX6_readOther 81 = .ok (.bipush 105, 2) := by decide +kernel
theorem z109_81 {st : List Value} {w : pm_H} {pl : pm_L} : pm_ev 109 81 pl st w = pm_ev 109 83 pl (.int 105 :: st) w := pm_ny pt_109 d109_81 rfl rfl rfl
theorem d109_83 : decode cX6_readOther 83 = .ok (.bipush 111, 2) := by decide +kernel
theorem z109_83 {st : List Value} {w : pm_H} {pl : pm_L} : pm_ev 109 83 pl st w = pm_ev 109 85 pl (.int 111 :: st) w := pm_ny pt_109 d109_83 rfl rfl rfl
theorem d109_85 : decode cX6_readOther 85 = .ok (.bipush 110, 2) := by decide +kernel
theorem z109_85 {st : List Value} {w : pm_H} {pl : pm_L} : pm_ev 109 85 pl st w = pm_ev 109 87 pl (.int 110 :: st) w := pm_ny pt_109 d109_85 rfl rfl rfl
theorem d109_87 : decode cX6_readOther 87 = .ok (.invokestatic 60, 3) := by decide +kernel
theorem z109_87 {w : pm_H} {b0 : Option Value} {x0 : Int32} {x1 : Int32} {x2 : Int32} {x3 : Int32} {x4 : Int32} {x5 : Int32} {x6 : Nat} : pm_ev 109 87 [b0] [.int x0, .int x1, .int x2, .int x3, .int x4, .int x5, .ref x6] w = pm_k 109 90 [b0] [.ref x6] (pm_call 99 [.int x5, .int x4, .int x3, .int x2, .int x1, .int x0] w) := pm_ns pt_109 pt_99 pt_M_6_60 (Or.inl rfl) d109_87 ⟨rfl, rfl⟩ ⟨⟨rfl, Nat.le_of_ble_eq_true rfl, Nat.le_of_ble_eq_true rfl, Nat.le_of_ble_eq_true rfl, Nat.le_of_ble_eq_true rfl⟩, rfl⟩
theorem d109_90 : decode cX6_readOther 90 = .ok (.invokevirtual 64, 3) := by decide +kernel
theorem z109_90 {w : pm_H} {b0 : Option Value} {x0 : Int64} {x1 : Nat} : pm_ev 109 90 [b0] [.long x0, .ref x1] w = pm_k 109 93 [b0] [] (pm_vc (w x1) 6 (pm_call 101 [.ref x1, .long x0] w)) := pm_nv pt_109 pt_101 pt_M_6_64 d109_90 ⟨rfl, rfl⟩ ⟨⟨rfl, Nat.le_of_ble_eq_true rfl, Nat.le_of_ble_eq_true rfl, Nat.le_of_ble_eq_true rfl, Nat.le_of_ble_eq_true rfl⟩, rfl⟩
theorem d109_93 : decode cX6_readOther 93 = .ok (.ifCond .eq 9, 3) := by decide +kernel
theorem z109_93 {st : List Value} {w : pm_H} {pl : pm_L} {x0 : Int32} : pm_ev 109 93 pl (.int x0 :: st) w = if x0 = 0 then pm_ev 109 102 pl st w else pm_ev 109 96 pl st w := pm_nif pt_109 d109_93 rfl rfl rfl
theorem d109_96 : decode cX6_readOther 96 = .ok (.aload_n 0, 1) := by decide +kernel
theorem z109_96 {st : List Value} {w : pm_H}  {x0 : Nat} : pm_ev 109 96 [some (.ref x0)] st w = pm_ev 109 97 [some (.ref x0)] (.ref x0 :: st) w := pm_ny pt_109 d109_96 rfl rfl rfl
theorem d109_97 : decode cX6_readOther 97 = .ok (.iconst 0, 1) := by decide +kernel
theorem z109_97 {st : List Value} {w : pm_H} {pl : pm_L} : pm_ev 109 97 pl st w = pm_ev 109 98 pl (.int 0 :: st) w := pm_ny pt_109 d109_97 rfl rfl rfl
theorem d109_98 : decode cX6_readOther 98 = .ok (.invokevirtual 154, 3) := by decide +kernel
theorem z109_98 {w : pm_H} {b0 : Option Value} {x0 : Int32} {x1 : Nat} : pm_ev 109 98 [b0] [.int x0, .ref x1] w = pm_k 109 101 [b0] [] (pm_vc (w x1) 6 (pm_call 116 [.ref x1, .int x0] w)) := pm_nv pt_109 pt_116 pt_M_6_154 d109_98 ⟨rfl, rfl⟩ ⟨⟨rfl, Nat.le_of_ble_eq_true rfl, Nat.le_of_ble_eq_true rfl, Nat.le_of_ble_eq_true rfl, Nat.le_of_ble_eq_true rfl⟩, rfl⟩
theorem d109_101 : decode cX6_readOther 101 = .ok (.ireturn, 1) := by decide +kernel
theorem z109_101 {w : pm_H} {pl : pm_L} {x0 : Int32} : pm_ev 109 101 pl [.int x0] w = pm_zr x0 w := pm_nz pt_109 d109_101
theorem d109_102 : decode cX6_readOther 102 = .ok (.aload_n 0, 1) := by decide +kernel
theorem z109_102 {st : List Value} {w : pm_H}  {x0 : Nat} : pm_ev 109 102 [some (.ref x0)] st w = pm_ev 109 103 [some (.ref x0)] (.ref x0 :: st) w := pm_ny pt_109 d109_102 rfl rfl rfl
theorem d109_103 : decode cX6_readOther 103 = .ok (.bipush 98, 2) := by decide +kernel
theorem z109_103 {st : List Value} {w : pm_H} {pl : pm_L} : pm_ev 109 103 pl st w = pm_ev 109 105 pl (.int 98 :: st) w := pm_ny pt_109 d109_103 rfl rfl rfl
theorem d109_105 : decode cX6_readOther 105 = .ok (.bipush 111, 2) := by decide +kernel
theorem z109_105 {st : List Value} {w : pm_H} {pl : pm_L} : pm_ev 109 105 pl st w = pm_ev 109 107 pl (.int 111 :: st) w := pm_ny pt_109 d109_105 rfl rfl rfl
theorem d109_107 : decode cX6_readOther 107 = .ok (.bipush 110, 2) := by decide +kernel
theorem z109_107 {st : List Value} {w : pm_H} {pl : pm_L} : pm_ev 109 107 pl st w = pm_ev 109 109 pl (.int 110 :: st) w := pm_ny pt_109 d109_107 rfl rfl rfl
theorem d109_109 : decode cX6_readOther 109 = .ok (.bipush 100, 2) := by decide +kernel
theorem z109_109 {st : List Value} {w : pm_H} {pl : pm_L} : pm_ev 109 109 pl st w = pm_ev 109 111 pl (.int 100 :: st) w := pm_ny pt_109 d109_109 rfl rfl rfl
theorem d109_111 : decode cX6_readOther 111 = .ok (.invokestatic 127, 3) := by decide +kernel
theorem z109_111 {w : pm_H} {b0 : Option Value} {x0 : Int32} {x1 : Int32} {x2 : Int32} {x3 : Int32} {x4 : Nat} : pm_ev 109 111 [b0] [.int x0, .int x1, .int x2, .int x3, .ref x4] w = pm_k 109 114 [b0] [.ref x4] (pm_call 106 [.int x3, .int x2, .int x1, .int x0] w) := pm_ns pt_109 pt_106 pt_M_6_127 (Or.inl rfl) d109_111 ⟨rfl, rfl⟩ ⟨⟨rfl, Nat.le_of_ble_eq_true rfl, Nat.le_of_ble_eq_true rfl, Nat.le_of_ble_eq_true rfl, Nat.le_of_ble_eq_true rfl⟩, rfl⟩
theorem d109_114 : decode cX6_readOther 114 = .ok (.invokevirtual 64, 3) := by decide +kernel
theorem z109_114 {w : pm_H} {b0 : Option Value} {x0 : Int64} {x1 : Nat} : pm_ev 109 114 [b0] [.long x0, .ref x1] w = pm_k 109 117 [b0] [] (pm_vc (w x1) 6 (pm_call 101 [.ref x1, .long x0] w)) := pm_nv pt_109 pt_101 pt_M_6_64 d109_114 ⟨rfl, rfl⟩ ⟨⟨rfl, Nat.le_of_ble_eq_true rfl, Nat.le_of_ble_eq_true rfl, Nat.le_of_ble_eq_true rfl, Nat.le_of_ble_eq_true rfl⟩, rfl⟩
theorem d109_117 : decode cX6_readOther 117 = .ok (.ifCond .eq 9, 3) := by decide +kernel
theorem z109_117 {st : List Value} {w : pm_H} {pl : pm_L} {x0 : Int32} : pm_ev 109 117 pl (.int x0 :: st) w = if x0 = 0 then pm_ev 109 126 pl st w else pm_ev 109 120 pl st w := pm_nif pt_109 d109_117 rfl rfl rfl
theorem d109_120 : decode cX6_readOther 120 = .ok (.aload_n 0, 1) := by decide +kernel
theorem z109_120 {st : List Value} {w : pm_H}  {x0 : Nat} : pm_ev 109 120 [some (.ref x0)] st w = pm_ev 109 121 [some (.ref x0)] (.ref x0 :: st) w := pm_ny pt_109 d109_120 rfl rfl rfl
theorem d109_121 : decode cX6_readOther 121 = .ok (.iconst 1, 1) := by decide +kernel
theorem z109_121 {st : List Value} {w : pm_H} {pl : pm_L} : pm_ev 109 121 pl st w = pm_ev 109 122 pl (.int 1 :: st) w := pm_ny pt_109 d109_121 rfl rfl rfl
theorem d109_122 : decode cX6_readOther 122 = .ok (.invokevirtual 154, 3) := by decide +kernel
theorem z109_122 {w : pm_H} {b0 : Option Value} {x0 : Int32} {x1 : Nat} : pm_ev 109 122 [b0] [.int x0, .ref x1] w = pm_k 109 125 [b0] [] (pm_vc (w x1) 6 (pm_call 116 [.ref x1, .int x0] w)) := pm_nv pt_109 pt_116 pt_M_6_154 d109_122 ⟨rfl, rfl⟩ ⟨⟨rfl, Nat.le_of_ble_eq_true rfl, Nat.le_of_ble_eq_true rfl, Nat.le_of_ble_eq_true rfl, Nat.le_of_ble_eq_true rfl⟩, rfl⟩
theorem d109_125 : decode cX6_readOther 125 = .ok (.ireturn, 1) := by decide +kernel
theorem z109_125 {w : pm_H} {pl : pm_L} {x0 : Int32} : pm_ev 109 125 pl [.int x0] w = pm_zr x0 w := pm_nz pt_109 d109_125
theorem d109_126 : decode cX6_readOther 126 = .ok (.aload_n 0, 1) := by decide +kernel
theorem z109_126 {st : List Value} {w : pm_H}  {x0 : Nat} : pm_ev 109 126 [some (.ref x0)] st w = pm_ev 109 127 [some (.ref x0)] (.ref x0 :: st) w := pm_ny pt_109 d109_126 rfl rfl rfl
theorem d109_127 : decode cX6_readOther 127 = .ok (.bipush 101, 2) := by decide +kernel
theorem z109_127 {st : List Value} {w : pm_H} {pl : pm_L} : pm_ev 109 127 pl st w = pm_ev 109 129 pl (.int 101 :: st) w := pm_ny pt_109 d109_127 rfl rfl rfl
theorem d109_129 : decode cX6_readOther 129 = .ok (.bipush 97, 2) := by decide +kernel
theorem z109_129 {st : List Value} {w : pm_H} {pl : pm_L} : pm_ev 109 129 pl st w = pm_ev 109 131 pl (.int 97 :: st) w := pm_ny pt_109 d109_129 rfl rfl rfl
theorem d109_131 : decode cX6_readOther 131 = .ok (.bipush 114, 2) := by decide +kernel
theorem z109_131 {st : List Value} {w : pm_H} {pl : pm_L} : pm_ev 109 131 pl st w = pm_ev 109 133 pl (.int 114 :: st) w := pm_ny pt_109 d109_131 rfl rfl rfl
theorem d109_133 : decode cX6_readOther 133 = .ok (.bipush 110, 2) := by decide +kernel
theorem z109_133 {st : List Value} {w : pm_H} {pl : pm_L} : pm_ev 109 133 pl st w = pm_ev 109 135 pl (.int 110 :: st) w := pm_ny pt_109 d109_133 rfl rfl rfl
theorem d109_135 : decode cX6_readOther 135 = .ok (.invokestatic 127, 3) := by decide +kernel
theorem z109_135 {w : pm_H} {b0 : Option Value} {x0 : Int32} {x1 : Int32} {x2 : Int32} {x3 : Int32} {x4 : Nat} : pm_ev 109 135 [b0] [.int x0, .int x1, .int x2, .int x3, .ref x4] w = pm_k 109 138 [b0] [.ref x4] (pm_call 106 [.int x3, .int x2, .int x1, .int x0] w) := pm_ns pt_109 pt_106 pt_M_6_127 (Or.inl rfl) d109_135 ⟨rfl, rfl⟩ ⟨⟨rfl, Nat.le_of_ble_eq_true rfl, Nat.le_of_ble_eq_true rfl, Nat.le_of_ble_eq_true rfl, Nat.le_of_ble_eq_true rfl⟩, rfl⟩
theorem d109_138 : decode cX6_readOther 138 = .ok (.invokevirtual 64, 3) := by decide +kernel
theorem z109_138 {w : pm_H} {b0 : Option Value} {x0 : Int64} {x1 : Nat} : pm_ev 109 138 [b0] [.long x0, .ref x1] w = pm_k 109 141 [b0] [] (pm_vc (w x1) 6 (pm_call 101 [.ref x1, .long x0] w)) := pm_nv pt_109 pt_101 pt_M_6_64 d109_138 ⟨rfl, rfl⟩ ⟨⟨rfl, Nat.le_of_ble_eq_true rfl, Nat.le_of_ble_eq_true rfl, Nat.le_of_ble_eq_true rfl, Nat.le_of_ble_eq_true rfl⟩, rfl⟩
theorem d109_141 : decode cX6_readOther 141 = .ok (.ifCond .eq 11, 3) := by decide +kernel
theorem z109_141 {st : List Value} {w : pm_H} {pl : pm_L} {x0 : Int32} : pm_ev 109 141 pl (.int x0 :: st) w = if x0 = 0 then pm_ev 109 152 pl st w else pm_ev 109 144 pl st w := pm_nif pt_109 d109_141 rfl rfl rfl
theorem d109_144 : decode cX6_readOther 144 = .ok (.aload_n 0, 1) := by decide +kernel
theorem z109_144 {st : List Value} {w : pm_H}  {x0 : Nat} : pm_ev 109 144 [some (.ref x0)] st w = pm_ev 109 145 [some (.ref x0)] (.ref x0 :: st) w := pm_ny pt_109 d109_144 rfl rfl rfl
theorem d109_145 : decode cX6_readOther 145 = .ok (.iconst 2, 1) := by decide +kernel
theorem z109_145 {st : List Value} {w : pm_H} {pl : pm_L} : pm_ev 109 145 pl st w = pm_ev 109 146 pl (.int 2 :: st) w := pm_ny pt_109 d109_145 rfl rfl rfl
theorem d109_146 : decode cX6_readOther 146 = .ok (.invokevirtual 154, 3) := by decide +kernel
theorem z109_146 {w : pm_H} {b0 : Option Value} {x0 : Int32} {x1 : Nat} : pm_ev 109 146 [b0] [.int x0, .ref x1] w = pm_k 109 149 [b0] [] (pm_vc (w x1) 6 (pm_call 116 [.ref x1, .int x0] w)) := pm_nv pt_109 pt_116 pt_M_6_154 d109_146 ⟨rfl, rfl⟩ ⟨⟨rfl, Nat.le_of_ble_eq_true rfl, Nat.le_of_ble_eq_true rfl, Nat.le_of_ble_eq_true rfl, Nat.le_of_ble_eq_true rfl⟩, rfl⟩
theorem d109_149 : decode cX6_readOther 149 = .ok (.goto 8, 3) := by decide +kernel
theorem z109_149 {st : List Value} {w : pm_H} {pl : pm_L} : pm_ev 109 149 pl st w = pm_ev 109 157 pl st w := pm_ny pt_109 d109_149 rfl rfl rfl
theorem d109_152 : decode cX6_readOther 152 = .ok (.aload_n 0, 1) := by decide +kernel
theorem z109_152 {st : List Value} {w : pm_H}  {x0 : Nat} : pm_ev 109 152 [some (.ref x0)] st w = pm_ev 109 153 [some (.ref x0)] (.ref x0 :: st) w := pm_ny pt_109 d109_152 rfl rfl rfl
theorem d109_153 : decode cX6_readOther 153 = .ok (.iconst 1, 1) := by decide +kernel
theorem z109_153 {st : List Value} {w : pm_H} {pl : pm_L} : pm_ev 109 153 pl st w = pm_ev 109 154 pl (.int 1 :: st) w := pm_ny pt_109 d109_153 rfl rfl rfl
theorem d109_154 : decode cX6_readOther 154 = .ok (.invokevirtual 107, 3) := by decide +kernel
theorem z109_154 {w : pm_H} {b0 : Option Value} {x0 : Int32} {x1 : Nat} : pm_ev 109 154 [b0] [.int x0, .ref x1] w = pm_k 109 157 [b0] [] (pm_vc (w x1) 6 (pm_call 102 [.ref x1, .int x0] w)) := pm_nv pt_109 pt_102 pt_M_6_107 d109_154 ⟨rfl, rfl⟩ ⟨⟨rfl, Nat.le_of_ble_eq_true rfl, Nat.le_of_ble_eq_true rfl, Nat.le_of_ble_eq_true rfl, Nat.le_of_ble_eq_true rfl⟩, rfl⟩
theorem d109_157 : decode cX6_readOther 157 = .ok (.ireturn, 1) := by decide +kernel
theorem z109_157 {w : pm_H} {pl : pm_L} {x0 : Int32} : pm_ev 109 157 pl [.int x0] w = pm_zr x0 w := pm_nz pt_109 d109_157
theorem d110_0 : decode cX6_readEvent 0 = .ok (.aload_n 0, 1) := by decide +kernel
theorem z110_0 {st : List Value} {w : pm_H} {b1 b2 b3 : Option Value} {x0 : Nat} : pm_ev 110 0 [some (.ref x0), b1, b2, b3] st w = pm_ev 110 1 [some (.ref x0), b1, b2, b3] (.ref x0 :: st) w := pm_ny pt_110 d110_0 rfl rfl rfl
theorem d110_1 : decode cX6_readEvent 1 = .ok (.getfield 87, 3) := by decide +kernel
theorem z110_1 {st : List Value} {w : pm_H} {pl : pm_L} {x0 : Nat} : pm_ev 110 1 pl (.ref x0 :: st) w = pm_kv 110 4 pl st w (pm_gf (w x0) 6 12) := pm_ng pt_110 pt_F_6_87 d110_1
theorem d110_4 : decode cX6_readEvent 4 = .ok (.bipush 9, 2) := by decide +kernel
theorem z110_4 {st : List Value} {w : pm_H} {pl : pm_L} : pm_ev 110 4 pl st w = pm_ev 110 6 pl (.int 9 :: st) w := pm_ny pt_110 d110_4 rfl rfl rfl
theorem d110_6 : decode cX6_readEvent 6 = .ok (.iaload, 1) := by decide +kernel
theorem z110_6 {st : List Value} {w : pm_H} {pl : pm_L} {x0 : Nat} {x1 : Int32} : pm_ev 110 6 pl (.int x1 :: .ref x0 :: st) w = pm_kv 110 7 pl st w (pm_ia (w x0) 0 x1) := pm_nia pt_110 d110_6
theorem d110_7 : decode cX6_readEvent 7 = .ok (.istore_n 2, 1) := by decide +kernel
theorem z110_7 {st : List Value} {w : pm_H} {b0 b2 b3 : Option Value} {x0 : Int32} {x9 : Int32} : pm_ev 110 7 [b0, some (.int x9), b2, b3] (.int x0 :: st) w = pm_ev 110 8 [b0, some (.int x9), some (.int x0), b3] st w := pm_ny pt_110 d110_7 rfl rfl rfl
theorem d110_8 : decode cX6_readEvent 8 = .ok (.iload_n 2, 1) := by decide +kernel
theorem z110_8 {st : List Value} {w : pm_H} {b0 b1 b3 : Option Value} {x0 : Int32} : pm_ev 110 8 [b0, b1, some (.int x0), b3] st w = pm_ev 110 9 [b0, b1, some (.int x0), b3] (.int x0 :: st) w := pm_ny pt_110 d110_8 rfl rfl rfl
theorem d110_9 : decode cX6_readEvent 9 = .ok (.bipush 20, 2) := by decide +kernel
theorem z110_9 {st : List Value} {w : pm_H} {pl : pm_L} : pm_ev 110 9 pl st w = pm_ev 110 11 pl (.int 20 :: st) w := pm_ny pt_110 d110_9 rfl rfl rfl
theorem d110_11 : decode cX6_readEvent 11 = .ok (.if_icmp .eq 19, 3) := by decide +kernel
theorem z110_11 {st : List Value} {w : pm_H} {pl : pm_L} {x0 x1 : Int32} : pm_ev 110 11 pl (.int x1 :: .int x0 :: st) w = if x0 = x1 then pm_ev 110 30 pl st w else pm_ev 110 14 pl st w := pm_nif pt_110 d110_11 rfl rfl rfl
theorem d110_14 : decode cX6_readEvent 14 = .ok (.iload_n 1, 1) := by decide +kernel
theorem z110_14 {st : List Value} {w : pm_H} {b0 b2 b3 : Option Value} {x0 : Int32} : pm_ev 110 14 [b0, some (.int x0), b2, b3] st w = pm_ev 110 15 [b0, some (.int x0), b2, b3] (.int x0 :: st) w := pm_ny pt_110 d110_14 rfl rfl rfl
theorem d110_15 : decode cX6_readEvent 15 = .ok (.iconst 2, 1) := by decide +kernel
theorem z110_15 {st : List Value} {w : pm_H} {pl : pm_L} : pm_ev 110 15 pl st w = pm_ev 110 16 pl (.int 2 :: st) w := pm_ny pt_110 d110_15 rfl rfl rfl
theorem d110_16 : decode cX6_readEvent 16 = .ok (.if_icmp .ne 20, 3) := by decide +kernel
theorem z110_16 {st : List Value} {w : pm_H} {pl : pm_L} {x0 x1 : Int32} : pm_ev 110 16 pl (.int x1 :: .int x0 :: st) w = if x0 = x1 then pm_ev 110 19 pl st w else pm_ev 110 36 pl st w := pm_nin (c := ¬ x0 = x1) pt_110 d110_16 rfl rfl rfl Iff.rfl
theorem d110_19 : decode cX6_readEvent 19 = .ok (.aload_n 0, 1) := by decide +kernel
theorem z110_19 {st : List Value} {w : pm_H} {b1 b2 b3 : Option Value} {x0 : Nat} : pm_ev 110 19 [some (.ref x0), b1, b2, b3] st w = pm_ev 110 20 [some (.ref x0), b1, b2, b3] (.ref x0 :: st) w := pm_ny pt_110 d110_19 rfl rfl rfl
theorem d110_20 : decode cX6_readEvent 20 = .ok (.getfield 87, 3) := by decide +kernel
theorem z110_20 {st : List Value} {w : pm_H} {pl : pm_L} {x0 : Nat} : pm_ev 110 20 pl (.ref x0 :: st) w = pm_kv 110 23 pl st w (pm_gf (w x0) 6 12) := pm_ng pt_110 pt_F_6_87 d110_20
theorem d110_23 : decode cX6_readEvent 23 = .ok (.invokestatic 141, 3) := by decide +kernel
theorem z110_23 {w : pm_H} {b0 b1 b2 b3 : Option Value} {x0 : Nat} : pm_ev 110 23 [b0, b1, b2, b3] [.ref x0] w = pm_k 110 26 [b0, b1, b2, b3] [] (pm_call 111 [.ref x0] w) := pm_ns pt_110 pt_111 pt_M_6_141 (Or.inl rfl) d110_23 ⟨rfl, rfl⟩ ⟨⟨rfl, Nat.le_of_ble_eq_true rfl, Nat.le_of_ble_eq_true rfl, Nat.le_of_ble_eq_true rfl, Nat.le_of_ble_eq_true rfl⟩, rfl⟩
theorem d110_26 : decode cX6_readEvent 26 = .ok (.iconst 3, 1) := by decide +kernel
theorem z110_26 {st : List Value} {w : pm_H} {pl : pm_L} : pm_ev 110 26 pl st w = pm_ev 110 27 pl (.int 3 :: st) w := pm_ny pt_110 d110_26 rfl rfl rfl
theorem d110_27 : decode cX6_readEvent 27 = .ok (.if_icmp .ne 9, 3) := by decide +kernel
theorem z110_27 {st : List Value} {w : pm_H} {pl : pm_L} {x0 x1 : Int32} : pm_ev 110 27 pl (.int x1 :: .int x0 :: st) w = if x0 = x1 then pm_ev 110 30 pl st w else pm_ev 110 36 pl st w := pm_nin (c := ¬ x0 = x1) pt_110 d110_27 rfl rfl rfl Iff.rfl
theorem d110_30 : decode cX6_readEvent 30 = .ok (.aload_n 0, 1) := by decide +kernel
theorem z110_30 {st : List Value} {w : pm_H} {b1 b2 b3 : Option Value} {x0 : Nat} : pm_ev 110 30 [some (.ref x0), b1, b2, b3] st w = pm_ev 110 31 [some (.ref x0), b1, b2, b3] (.ref x0 :: st) w := pm_ny pt_110 d110_30 rfl rfl rfl
theorem d110_31 : decode cX6_readEvent 31 = .ok (.iconst 3, 1) := by decide +kernel
theorem z110_31 {st : List Value} {w : pm_H} {pl : pm_L} : pm_ev 110 31 pl st w = pm_ev 110 32 pl (.int 3 :: st) w := pm_ny pt_110 d110_31 rfl rfl rfl
theorem d110_32 : decode cX6_readEvent 32 = .ok (.invokevirtual 107, 3) := by decide +kernel
theorem z110_32 {w : pm_H} {b0 b1 b2 b3 : Option Value} {x0 : Int32} {x1 : Nat} : pm_ev 110 32 [b0, b1, b2, b3] [.int x0, .ref x1] w = pm_k 110 35 [b0, b1, b2, b3] [] (pm_vc (w x1) 6 (pm_call 102 [.ref x1, .int x0] w)) := pm_nv pt_110 pt_102 pt_M_6_107 d110_32 ⟨rfl, rfl⟩ ⟨⟨rfl, Nat.le_of_ble_eq_true rfl, Nat.le_of_ble_eq_true rfl, Nat.le_of_ble_eq_true rfl, Nat.le_of_ble_eq_true rfl⟩, rfl⟩
theorem d110_35 : decode cX6_readEvent 35 = .ok (.ireturn, 1) := by decide +kernel
theorem z110_35 {w : pm_H} {pl : pm_L} {x0 : Int32} : pm_ev 110 35 pl [.int x0] w = pm_zr x0 w := pm_nz pt_110 d110_35
theorem d110_36 : decode cX6_readEvent 36 = .ok (.aload_n 0, 1) := by decide +kernel
theorem z110_36 {st : List Value} {w : pm_H} {b1 b2 b3 : Option Value} {x0 : Nat} : pm_ev 110 36 [some (.ref x0), b1, b2, b3] st w = pm_ev 110 37 [some (.ref x0), b1, b2, b3] (.ref x0 :: st) w := pm_ny pt_110 d110_36 rfl rfl rfl
theorem d110_37 : decode cX6_readEvent 37 = .ok (.invokevirtual 114, 3) := by decide +kernel
theorem z110_37 {w : pm_H} {b0 b1 b2 b3 : Option Value} {x0 : Nat} : pm_ev 110 37 [b0, b1, b2, b3] [.ref x0] w = pm_k 110 40 [b0, b1, b2, b3] [] (pm_vc (w x0) 6 (pm_call 92 [.ref x0] w)) := pm_nv pt_110 pt_92 pt_M_6_114 d110_37 ⟨rfl, rfl⟩ ⟨⟨rfl, Nat.le_of_ble_eq_true rfl, Nat.le_of_ble_eq_true rfl, Nat.le_of_ble_eq_true rfl, Nat.le_of_ble_eq_true rfl⟩, rfl⟩
theorem d110_40 : decode cX6_readEvent 40 = .ok (.bipush 10, 2) := by decide +kernel
theorem z110_40 {st : List Value} {w : pm_H} {pl : pm_L} : pm_ev 110 40 pl st w = pm_ev 110 42 pl (.int 10 :: st) w := pm_ny pt_110 d110_40 rfl rfl rfl
theorem d110_42 : decode cX6_readEvent 42 = .ok (.iconst 3, 1) := by decide +kernel
theorem z110_42 {st : List Value} {w : pm_H} {pl : pm_L} : pm_ev 110 42 pl st w = pm_ev 110 43 pl (.int 3 :: st) w := pm_ny pt_110 d110_42 rfl rfl rfl
theorem d110_43 : decode cX6_readEvent 43 = .ok (.iload_n 2, 1) := by decide +kernel
theorem z110_43 {st : List Value} {w : pm_H} {b0 b1 b3 : Option Value} {x0 : Int32} : pm_ev 110 43 [b0, b1, some (.int x0), b3] st w = pm_ev 110 44 [b0, b1, some (.int x0), b3] (.int x0 :: st) w := pm_ny pt_110 d110_43 rfl rfl rfl
theorem d110_44 : decode cX6_readEvent 44 = .ok (.imul, 1) := by decide +kernel
theorem z110_44 {st : List Value} {w : pm_H} {pl : pm_L} {x0 x1 : Int32} : pm_ev 110 44 pl (.int x1 :: .int x0 :: st) w = pm_ev 110 45 pl (.int (x0 * x1) :: st) w := pm_ny pt_110 d110_44 rfl rfl rfl
theorem d110_45 : decode cX6_readEvent 45 = .ok (.iadd, 1) := by decide +kernel
theorem z110_45 {st : List Value} {w : pm_H} {pl : pm_L} {x0 x1 : Int32} : pm_ev 110 45 pl (.int x1 :: .int x0 :: st) w = pm_ev 110 46 pl (.int (x0 + x1) :: st) w := pm_ny pt_110 d110_45 rfl rfl rfl
theorem d110_46 : decode cX6_readEvent 46 = .ok (.istore_n 3, 1) := by decide +kernel
theorem z110_46 {st : List Value} {w : pm_H} {b0 b1 b3 : Option Value} {x0 : Int32} {x9 : Int32} : pm_ev 110 46 [b0, b1, some (.int x9), b3] (.int x0 :: st) w = pm_ev 110 47 [b0, b1, some (.int x9), some (.int x0)] st w := pm_ny pt_110 d110_46 rfl rfl rfl
theorem d110_47 : decode cX6_readEvent 47 = .ok (.aload_n 0, 1) := by decide +kernel
theorem z110_47 {st : List Value} {w : pm_H} {b1 b2 b3 : Option Value} {x0 : Nat} : pm_ev 110 47 [some (.ref x0), b1, b2, b3] st w = pm_ev 110 48 [some (.ref x0), b1, b2, b3] (.ref x0 :: st) w := pm_ny pt_110 d110_47 rfl rfl rfl
theorem d110_48 : decode cX6_readEvent 48 = .ok (.getfield 87, 3) := by decide +kernel
theorem z110_48 {st : List Value} {w : pm_H} {pl : pm_L} {x0 : Nat} : pm_ev 110 48 pl (.ref x0 :: st) w = pm_kv 110 51 pl st w (pm_gf (w x0) 6 12) := pm_ng pt_110 pt_F_6_87 d110_48
theorem d110_51 : decode cX6_readEvent 51 = .ok (.iload_n 3, 1) := by decide +kernel
theorem z110_51 {st : List Value} {w : pm_H} {b0 b1 b2 : Option Value} {x0 : Int32} : pm_ev 110 51 [b0, b1, b2, some (.int x0)] st w = pm_ev 110 52 [b0, b1, b2, some (.int x0)] (.int x0 :: st) w := pm_ny pt_110 d110_51 rfl rfl rfl
theorem d110_52 : decode cX6_readEvent 52 = .ok (.iload_n 1, 1) := by decide +kernel
theorem z110_52 {st : List Value} {w : pm_H} {b0 b2 b3 : Option Value} {x0 : Int32} : pm_ev 110 52 [b0, some (.int x0), b2, b3] st w = pm_ev 110 53 [b0, some (.int x0), b2, b3] (.int x0 :: st) w := pm_ny pt_110 d110_52 rfl rfl rfl
theorem d110_53 : decode cX6_readEvent 53 = .ok (.iastore, 1) := by decide +kernel
theorem z110_53 {st : List Value} {w : pm_H} {pl : pm_L} {x0 : Nat} {x1 : Int32} {x2 : Int32} : pm_ev 110 53 pl (.int x2 :: .int x1 :: .ref x0 :: st) w = pm_kw 110 54 pl st (pm_is w x0 (w x0) x1 x2) := pm_nis pt_110 d110_53
theorem d110_54 : decode cX6_readEvent 54 = .ok (.aload_n 0, 1) := by decide +kernel
theorem z110_54 {st : List Value} {w : pm_H} {b1 b2 b3 : Option Value} {x0 : Nat} : pm_ev 110 54 [some (.ref x0), b1, b2, b3] st w = pm_ev 110 55 [some (.ref x0), b1, b2, b3] (.ref x0 :: st) w := pm_ny pt_110 d110_54 rfl rfl rfl
theorem d110_55 : decode cX6_readEvent 55 = .ok (.iload_n 3, 1) := by decide +kernel
theorem z110_55 {st : List Value} {w : pm_H} {b0 b1 b2 : Option Value} {x0 : Int32} : pm_ev 110 55 [b0, b1, b2, some (.int x0)] st w = pm_ev 110 56 [b0, b1, b2, some (.int x0)] (.int x0 :: st) w := pm_ny pt_110 d110_55 rfl rfl rfl
theorem d110_56 : decode cX6_readEvent 56 = .ok (.iconst 1, 1) := by decide +kernel
theorem z110_56 {st : List Value} {w : pm_H} {pl : pm_L} : pm_ev 110 56 pl st w = pm_ev 110 57 pl (.int 1 :: st) w := pm_ny pt_110 d110_56 rfl rfl rfl
theorem d110_57 : decode cX6_readEvent 57 = .ok (.iadd, 1) := by decide +kernel
theorem z110_57 {st : List Value} {w : pm_H} {pl : pm_L} {x0 x1 : Int32} : pm_ev 110 57 pl (.int x1 :: .int x0 :: st) w = pm_ev 110 58 pl (.int (x0 + x1) :: st) w := pm_ny pt_110 d110_57 rfl rfl rfl
theorem d110_58 : decode cX6_readEvent 58 = .ok (.aload_n 0, 1) := by decide +kernel
theorem z110_58 {st : List Value} {w : pm_H} {b1 b2 b3 : Option Value} {x0 : Nat} : pm_ev 110 58 [some (.ref x0), b1, b2, b3] st w = pm_ev 110 59 [some (.ref x0), b1, b2, b3] (.ref x0 :: st) w := pm_ny pt_110 d110_58 rfl rfl rfl
theorem d110_59 : decode cX6_readEvent 59 = .ok (.getfield 87, 3) := by decide +kernel
theorem z110_59 {st : List Value} {w : pm_H} {pl : pm_L} {x0 : Nat} : pm_ev 110 59 pl (.ref x0 :: st) w = pm_kv 110 62 pl st w (pm_gf (w x0) 6 12) := pm_ng pt_110 pt_F_6_87 d110_59
theorem d110_62 : decode cX6_readEvent 62 = .ok (.invokestatic 145, 3) := by decide +kernel
theorem z110_62 {w : pm_H} {b0 b1 b2 b3 : Option Value} {x0 : Nat} {x1 : Int32} {x2 : Nat} : pm_ev 110 62 [b0, b1, b2, b3] [.ref x0, .int x1, .ref x2] w = pm_k 110 65 [b0, b1, b2, b3] [.int x1, .ref x2] (pm_call 113 [.ref x0] w) := pm_ns pt_110 pt_113 pt_M_6_145 (Or.inl rfl) d110_62 ⟨rfl, rfl⟩ ⟨⟨rfl, Nat.le_of_ble_eq_true rfl, Nat.le_of_ble_eq_true rfl, Nat.le_of_ble_eq_true rfl, Nat.le_of_ble_eq_true rfl⟩, rfl⟩
theorem d110_65 : decode cX6_readEvent 65 = .ok (.sipush 359, 3) := by decide +kernel
theorem z110_65 {st : List Value} {w : pm_H} {pl : pm_L} : pm_ev 110 65 pl st w = pm_ev 110 68 pl (.int 359 :: st) w := pm_ny pt_110 d110_65 rfl rfl rfl
theorem d110_68 : decode cX6_readEvent 68 = .ok (.invokevirtual 118, 3) := by decide +kernel
theorem z110_68 {w : pm_H} {b0 b1 b2 b3 : Option Value} {x0 : Int32} {x1 : Int32} {x2 : Int32} {x3 : Nat} : pm_ev 110 68 [b0, b1, b2, b3] [.int x0, .int x1, .int x2, .ref x3] w = pm_k 110 71 [b0, b1, b2, b3] [] (pm_vc (w x3) 6 (pm_call 103 [.ref x3, .int x2, .int x1, .int x0] w)) := pm_nv pt_110 pt_103 pt_M_6_118 d110_68 ⟨rfl, rfl⟩ ⟨⟨rfl, Nat.le_of_ble_eq_true rfl, Nat.le_of_ble_eq_true rfl, Nat.le_of_ble_eq_true rfl, Nat.le_of_ble_eq_true rfl⟩, rfl⟩
theorem d110_71 : decode cX6_readEvent 71 = .ok (.ifCond .eq 31, 3) := by decide +kernel
theorem z110_71 {st : List Value} {w : pm_H} {pl : pm_L} {x0 : Int32} : pm_ev 110 71 pl (.int x0 :: st) w = if x0 = 0 then pm_ev 110 102 pl st w else pm_ev 110 74 pl st w := pm_nif pt_110 d110_71 rfl rfl rfl
theorem d110_74 : decode cX6_readEvent 74 = .ok (.aload_n 0, 1) := by decide +kernel
theorem z110_74 {st : List Value} {w : pm_H} {b1 b2 b3 : Option Value} {x0 : Nat} : pm_ev 110 74 [some (.ref x0), b1, b2, b3] st w = pm_ev 110 75 [some (.ref x0), b1, b2, b3] (.ref x0 :: st) w := pm_ny pt_110 d110_74 rfl rfl rfl
theorem d110_75 : decode cX6_readEvent 75 = .ok (.iload_n 3, 1) := by decide +kernel
theorem z110_75 {st : List Value} {w : pm_H} {b0 b1 b2 : Option Value} {x0 : Int32} : pm_ev 110 75 [b0, b1, b2, some (.int x0)] st w = pm_ev 110 76 [b0, b1, b2, some (.int x0)] (.int x0 :: st) w := pm_ny pt_110 d110_75 rfl rfl rfl
theorem d110_76 : decode cX6_readEvent 76 = .ok (.iconst 2, 1) := by decide +kernel
theorem z110_76 {st : List Value} {w : pm_H} {pl : pm_L} : pm_ev 110 76 pl st w = pm_ev 110 77 pl (.int 2 :: st) w := pm_ny pt_110 d110_76 rfl rfl rfl
theorem d110_77 : decode cX6_readEvent 77 = .ok (.iadd, 1) := by decide +kernel
theorem z110_77 {st : List Value} {w : pm_H} {pl : pm_L} {x0 x1 : Int32} : pm_ev 110 77 pl (.int x1 :: .int x0 :: st) w = pm_ev 110 78 pl (.int (x0 + x1) :: st) w := pm_ny pt_110 d110_77 rfl rfl rfl
theorem d110_78 : decode cX6_readEvent 78 = .ok (.iload_n 1, 1) := by decide +kernel
theorem z110_78 {st : List Value} {w : pm_H} {b0 b2 b3 : Option Value} {x0 : Int32} : pm_ev 110 78 [b0, some (.int x0), b2, b3] st w = pm_ev 110 79 [b0, some (.int x0), b2, b3] (.int x0 :: st) w := pm_ny pt_110 d110_78 rfl rfl rfl
theorem d110_79 : decode cX6_readEvent 79 = .ok (.iconst 2, 1) := by decide +kernel
theorem z110_79 {st : List Value} {w : pm_H} {pl : pm_L} : pm_ev 110 79 pl st w = pm_ev 110 80 pl (.int 2 :: st) w := pm_ny pt_110 d110_79 rfl rfl rfl
theorem d110_80 : decode cX6_readEvent 80 = .ok (.if_icmp .ne 7, 3) := by decide +kernel
theorem z110_80 {st : List Value} {w : pm_H} {pl : pm_L} {x0 x1 : Int32} : pm_ev 110 80 pl (.int x1 :: .int x0 :: st) w = if x0 = x1 then pm_ev 110 83 pl st w else pm_ev 110 87 pl st w := pm_nin (c := ¬ x0 = x1) pt_110 d110_80 rfl rfl rfl Iff.rfl
theorem d110_83 : decode cX6_readEvent 83 = .ok (.iconst 2, 1) := by decide +kernel
theorem z110_83 {st : List Value} {w : pm_H} {pl : pm_L} : pm_ev 110 83 pl st w = pm_ev 110 84 pl (.int 2 :: st) w := pm_ny pt_110 d110_83 rfl rfl rfl
theorem d110_84 : decode cX6_readEvent 84 = .ok (.goto 4, 3) := by decide +kernel
theorem z110_84 {st : List Value} {w : pm_H} {pl : pm_L} : pm_ev 110 84 pl st w = pm_ev 110 88 pl st w := pm_ny pt_110 d110_84 rfl rfl rfl
theorem d110_87 : decode cX6_readEvent 87 = .ok (.iconst 1, 1) := by decide +kernel
theorem z110_87 {st : List Value} {w : pm_H} {pl : pm_L} : pm_ev 110 87 pl st w = pm_ev 110 88 pl (.int 1 :: st) w := pm_ny pt_110 d110_87 rfl rfl rfl
theorem d110_88 : decode cX6_readEvent 88 = .ok (.aload_n 0, 1) := by decide +kernel
theorem z110_88 {st : List Value} {w : pm_H} {b1 b2 b3 : Option Value} {x0 : Nat} : pm_ev 110 88 [some (.ref x0), b1, b2, b3] st w = pm_ev 110 89 [some (.ref x0), b1, b2, b3] (.ref x0 :: st) w := pm_ny pt_110 d110_88 rfl rfl rfl
theorem d110_89 : decode cX6_readEvent 89 = .ok (.getfield 87, 3) := by decide +kernel
theorem z110_89 {st : List Value} {w : pm_H} {pl : pm_L} {x0 : Nat} : pm_ev 110 89 pl (.ref x0 :: st) w = pm_kv 110 92 pl st w (pm_gf (w x0) 6 12) := pm_ng pt_110 pt_F_6_87 d110_89
theorem d110_92 : decode cX6_readEvent 92 = .ok (.iload_n 1, 1) := by decide +kernel
theorem z110_92 {st : List Value} {w : pm_H} {b0 b2 b3 : Option Value} {x0 : Int32} : pm_ev 110 92 [b0, some (.int x0), b2, b3] st w = pm_ev 110 93 [b0, some (.int x0), b2, b3] (.int x0 :: st) w := pm_ny pt_110 d110_92 rfl rfl rfl
theorem d110_93 : decode cX6_readEvent 93 = .ok (.invokestatic 148, 3) := by decide +kernel
theorem z110_93 {w : pm_H} {b0 b1 b2 b3 : Option Value} {x0 : Int32} {x1 : Nat} {x2 : Int32} {x3 : Int32} {x4 : Nat} : pm_ev 110 93 [b0, b1, b2, b3] [.int x0, .ref x1, .int x2, .int x3, .ref x4] w = pm_k 110 96 [b0, b1, b2, b3] [.int x2, .int x3, .ref x4] (pm_call 114 [.ref x1, .int x0] w) := pm_ns pt_110 pt_114 pt_M_6_148 (Or.inl rfl) d110_93 ⟨rfl, rfl⟩ ⟨⟨rfl, Nat.le_of_ble_eq_true rfl, Nat.le_of_ble_eq_true rfl, Nat.le_of_ble_eq_true rfl, Nat.le_of_ble_eq_true rfl⟩, rfl⟩
theorem d110_96 : decode cX6_readEvent 96 = .ok (.invokevirtual 118, 3) := by decide +kernel
theorem z110_96 {w : pm_H} {b0 b1 b2 b3 : Option Value} {x0 : Int32} {x1 : Int32} {x2 : Int32} {x3 : Nat} : pm_ev 110 96 [b0, b1, b2, b3] [.int x0, .int x1, .int x2, .ref x3] w = pm_k 110 99 [b0, b1, b2, b3] [] (pm_vc (w x3) 6 (pm_call 103 [.ref x3, .int x2, .int x1, .int x0] w)) := pm_nv pt_110 pt_103 pt_M_6_118 d110_96 ⟨rfl, rfl⟩ ⟨⟨rfl, Nat.le_of_ble_eq_true rfl, Nat.le_of_ble_eq_true rfl, Nat.le_of_ble_eq_true rfl, Nat.le_of_ble_eq_true rfl⟩, rfl⟩
theorem d110_99 : decode cX6_readEvent 99 = .ok (.ifCond .ne 5, 3) := by decide +kernel
theorem z110_99 {st : List Value} {w : pm_H} {pl : pm_L} {x0 : Int32} : pm_ev 110 99 pl (.int x0 :: st) w = if x0 = 0 then pm_ev 110 102 pl st w else pm_ev 110 104 pl st w := pm_nin (c := ¬ x0 = 0) pt_110 d110_99 rfl rfl rfl Iff.rfl
theorem d110_102 : decode cX6_readEvent 102 = .ok (.iconst 0, 1) := by decide +kernel
theorem z110_102 {st : List Value} {w : pm_H} {pl : pm_L} : pm_ev 110 102 pl st w = pm_ev 110 103 pl (.int 0 :: st) w := pm_ny pt_110 d110_102 rfl rfl rfl
theorem d110_103 : decode cX6_readEvent 103 = .ok (.ireturn, 1) := by decide +kernel
theorem z110_103 {w : pm_H} {pl : pm_L} {x0 : Int32} : pm_ev 110 103 pl [.int x0] w = pm_zr x0 w := pm_nz pt_110 d110_103
theorem d110_104 : decode cX6_readEvent 104 = .ok (.aload_n 0, 1) := by decide +kernel
theorem z110_104 {st : List Value} {w : pm_H} {b1 b2 b3 : Option Value} {x0 : Nat} : pm_ev 110 104 [some (.ref x0), b1, b2, b3] st w = pm_ev 110 105 [some (.ref x0), b1, b2, b3] (.ref x0 :: st) w := pm_ny pt_110 d110_104 rfl rfl rfl
theorem d110_105 : decode cX6_readEvent 105 = .ok (.getfield 87, 3) := by decide +kernel
theorem z110_105 {st : List Value} {w : pm_H} {pl : pm_L} {x0 : Nat} : pm_ev 110 105 pl (.ref x0 :: st) w = pm_kv 110 108 pl st w (pm_gf (w x0) 6 12) := pm_ng pt_110 pt_F_6_87 d110_105
theorem d110_108 : decode cX6_readEvent 108 = .ok (.bipush 9, 2) := by decide +kernel
theorem z110_108 {st : List Value} {w : pm_H} {pl : pm_L} : pm_ev 110 108 pl st w = pm_ev 110 110 pl (.int 9 :: st) w := pm_ny pt_110 d110_108 rfl rfl rfl
theorem d110_110 : decode cX6_readEvent 110 = .ok (.dup2, 1) := by decide +kernel
theorem z110_110 {st : List Value} {w : pm_H} {pl : pm_L} {x0 : Int32} {x1 : Nat} : pm_ev 110 110 pl (.int x0 :: .ref x1 :: st) w = pm_ev 110 111 pl (.int x0 :: .ref x1 :: .int x0 :: .ref x1 :: st) w := pm_ny pt_110 d110_110 rfl rfl rfl
theorem d110_111 : decode cX6_readEvent 111 = .ok (.iaload, 1) := by decide +kernel
theorem z110_111 {st : List Value} {w : pm_H} {pl : pm_L} {x0 : Nat} {x1 : Int32} : pm_ev 110 111 pl (.int x1 :: .ref x0 :: st) w = pm_kv 110 112 pl st w (pm_ia (w x0) 0 x1) := pm_nia pt_110 d110_111
theorem d110_112 : decode cX6_readEvent 112 = .ok (.iconst 1, 1) := by decide +kernel
theorem z110_112 {st : List Value} {w : pm_H} {pl : pm_L} : pm_ev 110 112 pl st w = pm_ev 110 113 pl (.int 1 :: st) w := pm_ny pt_110 d110_112 rfl rfl rfl
theorem d110_113 : decode cX6_readEvent 113 = .ok (.iadd, 1) := by decide +kernel
theorem z110_113 {st : List Value} {w : pm_H} {pl : pm_L} {x0 x1 : Int32} : pm_ev 110 113 pl (.int x1 :: .int x0 :: st) w = pm_ev 110 114 pl (.int (x0 + x1) :: st) w := pm_ny pt_110 d110_113 rfl rfl rfl
theorem d110_114 : decode cX6_readEvent 114 = .ok (.iastore, 1) := by decide +kernel
theorem z110_114 {st : List Value} {w : pm_H} {pl : pm_L} {x0 : Nat} {x1 : Int32} {x2 : Int32} : pm_ev 110 114 pl (.int x2 :: .int x1 :: .ref x0 :: st) w = pm_kw 110 115 pl st (pm_is w x0 (w x0) x1 x2) := pm_nis pt_110 d110_114
theorem d110_115 : decode cX6_readEvent 115 = .ok (.iconst 1, 1) := by decide +kernel
theorem z110_115 {st : List Value} {w : pm_H} {pl : pm_L} : pm_ev 110 115 pl st w = pm_ev 110 116 pl (.int 1 :: st) w := pm_ny pt_110 d110_115 rfl rfl rfl
theorem d110_116 : decode cX6_readEvent 116 = .ok (.ireturn, 1) := by decide +kernel
theorem z110_116 {w : pm_H} {pl : pm_L} {x0 : Int32} : pm_ev 110 116 pl [.int x0] w = pm_zr x0 w := pm_nz pt_110 d110_116
theorem d111_0 : decode cX6_splitsOf 0 = .ok (.iconst 0, 1) := by decide +kernel
theorem z111_0 {st : List Value} {w : pm_H} {pl : pm_L} : pm_ev 111 0 pl st w = pm_ev 111 1 pl (.int 0 :: st) w := pm_ny pt_111 d111_0 rfl rfl rfl
theorem d111_1 : decode cX6_splitsOf 1 = .ok (.istore_n 1, 1) := by decide +kernel
theorem z111_1 {st : List Value} {w : pm_H} {b1 b2 : Option Value} {x0 : Int32} {x9 : Nat} : pm_ev 111 1 [some (.ref x9), b1, b2] (.int x0 :: st) w = pm_ev 111 2 [some (.ref x9), some (.int x0), b2] st w := pm_ny pt_111 d111_1 rfl rfl rfl
theorem d111_2 : decode cX6_splitsOf 2 = .ok (.iconst 0, 1) := by decide +kernel
theorem z111_2 {st : List Value} {w : pm_H} {pl : pm_L} : pm_ev 111 2 pl st w = pm_ev 111 3 pl (.int 0 :: st) w := pm_ny pt_111 d111_2 rfl rfl rfl
theorem d111_3 : decode cX6_splitsOf 3 = .ok (.istore_n 2, 1) := by decide +kernel
theorem z111_3 {st : List Value} {w : pm_H} {b0 b2 : Option Value} {x0 : Int32} {x9 : Int32} : pm_ev 111 3 [b0, some (.int x9), b2] (.int x0 :: st) w = pm_ev 111 4 [b0, some (.int x9), some (.int x0)] st w := pm_ny pt_111 d111_3 rfl rfl rfl
theorem d111_4 : decode cX6_splitsOf 4 = .ok (.iload_n 2, 1) := by decide +kernel
theorem z111_4 {st : List Value} {w : pm_H} {b0 b1 : Option Value} {x0 : Int32} : pm_ev 111 4 [b0, b1, some (.int x0)] st w = pm_ev 111 5 [b0, b1, some (.int x0)] (.int x0 :: st) w := pm_ny pt_111 d111_4 rfl rfl rfl
theorem d111_5 : decode cX6_splitsOf 5 = .ok (.aload_n 0, 1) := by decide +kernel
theorem z111_5 {st : List Value} {w : pm_H} {b1 b2 : Option Value} {x0 : Nat} : pm_ev 111 5 [some (.ref x0), b1, b2] st w = pm_ev 111 6 [some (.ref x0), b1, b2] (.ref x0 :: st) w := pm_ny pt_111 d111_5 rfl rfl rfl
theorem d111_6 : decode cX6_splitsOf 6 = .ok (.bipush 9, 2) := by decide +kernel
theorem z111_6 {st : List Value} {w : pm_H} {pl : pm_L} : pm_ev 111 6 pl st w = pm_ev 111 8 pl (.int 9 :: st) w := pm_ny pt_111 d111_6 rfl rfl rfl
theorem d111_8 : decode cX6_splitsOf 8 = .ok (.iaload, 1) := by decide +kernel
theorem z111_8 {st : List Value} {w : pm_H} {pl : pm_L} {x0 : Nat} {x1 : Int32} : pm_ev 111 8 pl (.int x1 :: .ref x0 :: st) w = pm_kv 111 9 pl st w (pm_ia (w x0) 0 x1) := pm_nia pt_111 d111_8
theorem d111_9 : decode cX6_splitsOf 9 = .ok (.if_icmp .ge 22, 3) := by decide +kernel
theorem z111_9 {st : List Value} {w : pm_H} {pl : pm_L} {x0 x1 : Int32} : pm_ev 111 9 pl (.int x1 :: .int x0 :: st) w = if x0 < x1 then pm_ev 111 12 pl st w else pm_ev 111 31 pl st w := pm_nin (c := x1 ≤ x0) pt_111 d111_9 rfl rfl rfl pm_ge
theorem d111_12 : decode cX6_splitsOf 12 = .ok (.aload_n 0, 1) := by decide +kernel
theorem z111_12 {st : List Value} {w : pm_H} {b1 b2 : Option Value} {x0 : Nat} : pm_ev 111 12 [some (.ref x0), b1, b2] st w = pm_ev 111 13 [some (.ref x0), b1, b2] (.ref x0 :: st) w := pm_ny pt_111 d111_12 rfl rfl rfl
theorem d111_13 : decode cX6_splitsOf 13 = .ok (.iload_n 2, 1) := by decide +kernel
theorem z111_13 {st : List Value} {w : pm_H} {b0 b1 : Option Value} {x0 : Int32} : pm_ev 111 13 [b0, b1, some (.int x0)] st w = pm_ev 111 14 [b0, b1, some (.int x0)] (.int x0 :: st) w := pm_ny pt_111 d111_13 rfl rfl rfl
theorem d111_14 : decode cX6_splitsOf 14 = .ok (.iconst 0, 1) := by decide +kernel
theorem z111_14 {st : List Value} {w : pm_H} {pl : pm_L} : pm_ev 111 14 pl st w = pm_ev 111 15 pl (.int 0 :: st) w := pm_ny pt_111 d111_14 rfl rfl rfl
theorem d111_15 : decode cX6_splitsOf 15 = .ok (.invokestatic 134, 3) := by decide +kernel
theorem z111_15 {w : pm_H} {b0 b1 b2 : Option Value} {x0 : Int32} {x1 : Int32} {x2 : Nat} : pm_ev 111 15 [b0, b1, b2] [.int x0, .int x1, .ref x2] w = pm_k 111 18 [b0, b1, b2] [] (pm_call 112 [.ref x2, .int x1, .int x0] w) := pm_ns pt_111 pt_112 pt_M_6_134 (Or.inl rfl) d111_15 ⟨rfl, rfl⟩ ⟨⟨rfl, Nat.le_of_ble_eq_true rfl, Nat.le_of_ble_eq_true rfl, Nat.le_of_ble_eq_true rfl, Nat.le_of_ble_eq_true rfl⟩, rfl⟩
theorem d111_18 : decode cX6_splitsOf 18 = .ok (.iconst 2, 1) := by decide +kernel
theorem z111_18 {st : List Value} {w : pm_H} {pl : pm_L} : pm_ev 111 18 pl st w = pm_ev 111 19 pl (.int 2 :: st) w := pm_ny pt_111 d111_18 rfl rfl rfl
theorem d111_19 : decode cX6_splitsOf 19 = .ok (.if_icmp .ne 6, 3) := by decide +kernel
theorem z111_19 {st : List Value} {w : pm_H} {pl : pm_L} {x0 x1 : Int32} : pm_ev 111 19 pl (.int x1 :: .int x0 :: st) w = if x0 = x1 then pm_ev 111 22 pl st w else pm_ev 111 25 pl st w := pm_nin (c := ¬ x0 = x1) pt_111 d111_19 rfl rfl rfl Iff.rfl
theorem d111_22 : decode cX6_splitsOf 22 = .ok (.iinc 1 1, 3) := by decide +kernel
theorem z111_22 {st : List Value} {w : pm_H} {b2 : Option Value} {x0 : Int32} {x9 : Nat} : pm_ev 111 22 [some (.ref x9), some (.int x0), b2] st w = pm_ev 111 25 [some (.ref x9), some (.int (x0 + 1)), b2] st w := pm_ny pt_111 d111_22 rfl rfl rfl
theorem d111_25 : decode cX6_splitsOf 25 = .ok (.iinc 2 1, 3) := by decide +kernel
theorem z111_25 {st : List Value} {w : pm_H} {b0 : Option Value} {x0 : Int32} {x9 : Int32} : pm_ev 111 25 [b0, some (.int x9), some (.int x0)] st w = pm_ev 111 28 [b0, some (.int x9), some (.int (x0 + 1))] st w := pm_ny pt_111 d111_25 rfl rfl rfl
theorem d111_28 : decode cX6_splitsOf 28 = .ok (.goto (-24), 3) := by decide +kernel
theorem z111_28 {st : List Value} {w : pm_H} {pl : pm_L} : pm_ev 111 28 pl st w = pm_ev 111 4 pl st w := pm_ny pt_111 d111_28 rfl rfl rfl
theorem d111_31 : decode cX6_splitsOf 31 = .ok (.iload_n 1, 1) := by decide +kernel
theorem z111_31 {st : List Value} {w : pm_H} {b0 b2 : Option Value} {x0 : Int32} : pm_ev 111 31 [b0, some (.int x0), b2] st w = pm_ev 111 32 [b0, some (.int x0), b2] (.int x0 :: st) w := pm_ny pt_111 d111_31 rfl rfl rfl
theorem d111_32 : decode cX6_splitsOf 32 = .ok (.ireturn, 1) := by decide +kernel
theorem z111_32 {w : pm_H} {pl : pm_L} {x0 : Int32} : pm_ev 111 32 pl [.int x0] w = some (some (.int x0), w) := pm_nr pt_111 d111_32 rfl
theorem d112_0 : decode cX6_told_ 0 = .ok (.aload_n 0, 1) := by decide +kernel
theorem z112_0 {st : List Value} {w : pm_H} {b1 b2 : Option Value} {x0 : Nat} : pm_ev 112 0 [some (.ref x0), b1, b2] st w = pm_ev 112 1 [some (.ref x0), b1, b2] (.ref x0 :: st) w := pm_ny pt_112 d112_0 rfl rfl rfl
theorem d112_1 : decode cX6_told_ 1 = .ok (.bipush 10, 2) := by decide +kernel
theorem z112_1 {st : List Value} {w : pm_H} {pl : pm_L} : pm_ev 112 1 pl st w = pm_ev 112 3 pl (.int 10 :: st) w := pm_ny pt_112 d112_1 rfl rfl rfl
theorem d112_3 : decode cX6_told_ 3 = .ok (.iconst 3, 1) := by decide +kernel
theorem z112_3 {st : List Value} {w : pm_H} {pl : pm_L} : pm_ev 112 3 pl st w = pm_ev 112 4 pl (.int 3 :: st) w := pm_ny pt_112 d112_3 rfl rfl rfl
theorem d112_4 : decode cX6_told_ 4 = .ok (.iload_n 1, 1) := by decide +kernel
theorem z112_4 {st : List Value} {w : pm_H} {b0 b2 : Option Value} {x0 : Int32} : pm_ev 112 4 [b0, some (.int x0), b2] st w = pm_ev 112 5 [b0, some (.int x0), b2] (.int x0 :: st) w := pm_ny pt_112 d112_4 rfl rfl rfl
theorem d112_5 : decode cX6_told_ 5 = .ok (.imul, 1) := by decide +kernel
theorem z112_5 {st : List Value} {w : pm_H} {pl : pm_L} {x0 x1 : Int32} : pm_ev 112 5 pl (.int x1 :: .int x0 :: st) w = pm_ev 112 6 pl (.int (x0 * x1) :: st) w := pm_ny pt_112 d112_5 rfl rfl rfl
theorem d112_6 : decode cX6_told_ 6 = .ok (.iadd, 1) := by decide +kernel
theorem z112_6 {st : List Value} {w : pm_H} {pl : pm_L} {x0 x1 : Int32} : pm_ev 112 6 pl (.int x1 :: .int x0 :: st) w = pm_ev 112 7 pl (.int (x0 + x1) :: st) w := pm_ny pt_112 d112_6 rfl rfl rfl
theorem d112_7 : decode cX6_told_ 7 = .ok (.iload_n 2, 1) := by decide +kernel
theorem z112_7 {st : List Value} {w : pm_H} {b0 b1 : Option Value} {x0 : Int32} : pm_ev 112 7 [b0, b1, some (.int x0)] st w = pm_ev 112 8 [b0, b1, some (.int x0)] (.int x0 :: st) w := pm_ny pt_112 d112_7 rfl rfl rfl
theorem d112_8 : decode cX6_told_ 8 = .ok (.iadd, 1) := by decide +kernel
theorem z112_8 {st : List Value} {w : pm_H} {pl : pm_L} {x0 x1 : Int32} : pm_ev 112 8 pl (.int x1 :: .int x0 :: st) w = pm_ev 112 9 pl (.int (x0 + x1) :: st) w := pm_ny pt_112 d112_8 rfl rfl rfl
theorem d112_9 : decode cX6_told_ 9 = .ok (.iaload, 1) := by decide +kernel
theorem z112_9 {st : List Value} {w : pm_H} {pl : pm_L} {x0 : Nat} {x1 : Int32} : pm_ev 112 9 pl (.int x1 :: .ref x0 :: st) w = pm_kv 112 10 pl st w (pm_ia (w x0) 0 x1) := pm_nia pt_112 d112_9
theorem d112_10 : decode cX6_told_ 10 = .ok (.ireturn, 1) := by decide +kernel
theorem z112_10 {w : pm_H} {pl : pm_L} {x0 : Int32} : pm_ev 112 10 pl [.int x0] w = some (some (.int x0), w) := pm_nr pt_112 d112_10 rfl
theorem d113_0 : decode cX6_lastDay 0 = .ok (.aload_n 0, 1) := by decide +kernel
theorem z113_0 {st : List Value} {w : pm_H}  {x0 : Nat} : pm_ev 113 0 [some (.ref x0)] st w = pm_ev 113 1 [some (.ref x0)] (.ref x0 :: st) w := pm_ny pt_113 d113_0 rfl rfl rfl
theorem d113_1 : decode cX6_lastDay 1 = .ok (.bipush 9, 2) := by decide +kernel
theorem z113_1 {st : List Value} {w : pm_H} {pl : pm_L} : pm_ev 113 1 pl st w = pm_ev 113 3 pl (.int 9 :: st) w := pm_ny pt_113 d113_1 rfl rfl rfl
theorem d113_3 : decode cX6_lastDay 3 = .ok (.iaload, 1) := by decide +kernel
theorem z113_3 {st : List Value} {w : pm_H} {pl : pm_L} {x0 : Nat} {x1 : Int32} : pm_ev 113 3 pl (.int x1 :: .ref x0 :: st) w = pm_kv 113 4 pl st w (pm_ia (w x0) 0 x1) := pm_nia pt_113 d113_3
theorem d113_4 : decode cX6_lastDay 4 = .ok (.ifCond .ne 7, 3) := by decide +kernel
theorem z113_4 {st : List Value} {w : pm_H} {pl : pm_L} {x0 : Int32} : pm_ev 113 4 pl (.int x0 :: st) w = if x0 = 0 then pm_ev 113 7 pl st w else pm_ev 113 11 pl st w := pm_nin (c := ¬ x0 = 0) pt_113 d113_4 rfl rfl rfl Iff.rfl
theorem d113_7 : decode cX6_lastDay 7 = .ok (.iconst 0, 1) := by decide +kernel
theorem z113_7 {st : List Value} {w : pm_H} {pl : pm_L} : pm_ev 113 7 pl st w = pm_ev 113 8 pl (.int 0 :: st) w := pm_ny pt_113 d113_7 rfl rfl rfl
theorem d113_8 : decode cX6_lastDay 8 = .ok (.goto 14, 3) := by decide +kernel
theorem z113_8 {st : List Value} {w : pm_H} {pl : pm_L} : pm_ev 113 8 pl st w = pm_ev 113 22 pl st w := pm_ny pt_113 d113_8 rfl rfl rfl
theorem d113_11 : decode cX6_lastDay 11 = .ok (.aload_n 0, 1) := by decide +kernel
theorem z113_11 {st : List Value} {w : pm_H}  {x0 : Nat} : pm_ev 113 11 [some (.ref x0)] st w = pm_ev 113 12 [some (.ref x0)] (.ref x0 :: st) w := pm_ny pt_113 d113_11 rfl rfl rfl
theorem d113_12 : decode cX6_lastDay 12 = .ok (.aload_n 0, 1) := by decide +kernel
theorem z113_12 {st : List Value} {w : pm_H}  {x0 : Nat} : pm_ev 113 12 [some (.ref x0)] st w = pm_ev 113 13 [some (.ref x0)] (.ref x0 :: st) w := pm_ny pt_113 d113_12 rfl rfl rfl
theorem d113_13 : decode cX6_lastDay 13 = .ok (.bipush 9, 2) := by decide +kernel
theorem z113_13 {st : List Value} {w : pm_H} {pl : pm_L} : pm_ev 113 13 pl st w = pm_ev 113 15 pl (.int 9 :: st) w := pm_ny pt_113 d113_13 rfl rfl rfl
theorem d113_15 : decode cX6_lastDay 15 = .ok (.iaload, 1) := by decide +kernel
theorem z113_15 {st : List Value} {w : pm_H} {pl : pm_L} {x0 : Nat} {x1 : Int32} : pm_ev 113 15 pl (.int x1 :: .ref x0 :: st) w = pm_kv 113 16 pl st w (pm_ia (w x0) 0 x1) := pm_nia pt_113 d113_15
theorem d113_16 : decode cX6_lastDay 16 = .ok (.iconst 1, 1) := by decide +kernel
theorem z113_16 {st : List Value} {w : pm_H} {pl : pm_L} : pm_ev 113 16 pl st w = pm_ev 113 17 pl (.int 1 :: st) w := pm_ny pt_113 d113_16 rfl rfl rfl
theorem d113_17 : decode cX6_lastDay 17 = .ok (.isub, 1) := by decide +kernel
theorem z113_17 {st : List Value} {w : pm_H} {pl : pm_L} {x0 x1 : Int32} : pm_ev 113 17 pl (.int x1 :: .int x0 :: st) w = pm_ev 113 18 pl (.int (x0 - x1) :: st) w := pm_ny pt_113 d113_17 rfl rfl rfl
theorem d113_18 : decode cX6_lastDay 18 = .ok (.iconst 1, 1) := by decide +kernel
theorem z113_18 {st : List Value} {w : pm_H} {pl : pm_L} : pm_ev 113 18 pl st w = pm_ev 113 19 pl (.int 1 :: st) w := pm_ny pt_113 d113_18 rfl rfl rfl
theorem d113_19 : decode cX6_lastDay 19 = .ok (.invokestatic 134, 3) := by decide +kernel
theorem z113_19 {w : pm_H} {b0 : Option Value} {x0 : Int32} {x1 : Int32} {x2 : Nat} : pm_ev 113 19 [b0] [.int x0, .int x1, .ref x2] w = pm_k 113 22 [b0] [] (pm_call 112 [.ref x2, .int x1, .int x0] w) := pm_ns pt_113 pt_112 pt_M_6_134 (Or.inl rfl) d113_19 ⟨rfl, rfl⟩ ⟨⟨rfl, Nat.le_of_ble_eq_true rfl, Nat.le_of_ble_eq_true rfl, Nat.le_of_ble_eq_true rfl, Nat.le_of_ble_eq_true rfl⟩, rfl⟩
theorem d113_22 : decode cX6_lastDay 22 = .ok (.ireturn, 1) := by decide +kernel
theorem z113_22 {w : pm_H} {pl : pm_L} {x0 : Int32} : pm_ev 113 22 pl [.int x0] w = some (some (.int x0), w) := pm_nr pt_113 d113_22 rfl
