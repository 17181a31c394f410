theorem d9_0 : decode cX1_keep 0 = .ok (.aload_n 0, 1) := by decide +kernel
theorem z9_0 {st : List Value} {w : pm_H} {b1 b2 b3 : Option Value} {x0 : Nat} : pm_ev 9 0 [some (.ref x0), b1, b2, b3] st w = pm_ev 9 1 [some (.ref x0), b1, b2, b3] (.ref x0 :: st) w := pm_ny pt_9 d9_0 rfl rfl rfl
theorem d9_1 : decode cX1_keep 1 = .ok (.getfield 19, 3) := by decide +kernel
theorem z9_1 {st : List Value} {w : pm_H} {pl : pm_L} {x0 : Nat} : pm_ev 9 1 pl (.ref x0 :: st) w = pm_kv 9 4 pl st w (pm_gf (w x0) 1 0) := pm_ng pt_9 pt_F_1_19 d9_1
theorem d9_4 : decode cX1_keep 4 = .ok (.bipush 10, 2) := by decide +kernel
theorem z9_4 {st : List Value} {w : pm_H} {pl : pm_L} : pm_ev 9 4 pl st w = pm_ev 9 6 pl (.int 10 :: st) w := pm_ny pt_9 d9_4 rfl rfl rfl
theorem d9_6 : decode cX1_keep 6 = .ok (.if_icmp .lt 7, 3) := by decide +kernel
theorem z9_6 {st : List Value} {w : pm_H} {pl : pm_L} {x0 x1 : Int32} : pm_ev 9 6 pl (.int x1 :: .int x0 :: st) w = if x0 < x1 then pm_ev 9 13 pl st w else pm_ev 9 9 pl st w := pm_nif pt_9 d9_6 rfl rfl rfl
theorem d9_9 : decode cX1_keep 9 = .ok (.aload_n 0, 1) := by decide +kernel
theorem z9_9 {st : List Value} {w : pm_H} {b1 b2 b3 : Option Value} {x0 : Nat} : pm_ev 9 9 [some (.ref x0), b1, b2, b3] st w = pm_ev 9 10 [some (.ref x0), b1, b2, b3] (.ref x0 :: st) w := pm_ny pt_9 d9_9 rfl rfl rfl
theorem d9_10 : decode cX1_keep 10 = .ok (.invokevirtual 23, 3) := by decide +kernel
theorem z9_10 {w : pm_H} {b0 b1 b2 b3 : Option Value} {x0 : Nat} : pm_ev 9 10 [b0, b1, b2, b3] [.ref x0] w = pm_k 9 13 [b0, b1, b2, b3] [] (pm_vc (w x0) 1 (pm_call 10 [.ref x0] w)) := pm_nv pt_9 pt_10 pt_M_1_23 d9_10 ⟨rfl, rfl⟩ ⟨⟨rfl, Nat.le_of_ble_eq_true rfl, Nat.le_of_ble_eq_true rfl, Nat.le_of_ble_eq_true rfl, Nat.le_of_ble_eq_true rfl⟩, rfl⟩
theorem d9_13 : decode cX1_keep 13 = .ok (.aload_n 0, 1) := by decide +kernel
theorem z9_13 {st : List Value} {w : pm_H} {b1 b2 b3 : Option Value} {x0 : Nat} : pm_ev 9 13 [some (.ref x0), b1, b2, b3] st w = pm_ev 9 14 [some (.ref x0), b1, b2, b3] (.ref x0 :: st) w := pm_ny pt_9 d9_13 rfl rfl rfl
theorem d9_14 : decode cX1_keep 14 = .ok (.getfield 9, 3) := by decide +kernel
theorem z9_14 {st : List Value} {w : pm_H} {pl : pm_L} {x0 : Nat} : pm_ev 9 14 pl (.ref x0 :: st) w = pm_kv 9 17 pl st w (pm_gf (w x0) 1 1) := pm_ng pt_9 pt_F_1_9 d9_14
theorem d9_17 : decode cX1_keep 17 = .ok (.aload_n 0, 1) := by decide +kernel
theorem z9_17 {st : List Value} {w : pm_H} {b1 b2 b3 : Option Value} {x0 : Nat} : pm_ev 9 17 [some (.ref x0), b1, b2, b3] st w = pm_ev 9 18 [some (.ref x0), b1, b2, b3] (.ref x0 :: st) w := pm_ny pt_9 d9_17 rfl rfl rfl
theorem d9_18 : decode cX1_keep 18 = .ok (.getfield 19, 3) := by decide +kernel
theorem z9_18 {st : List Value} {w : pm_H} {pl : pm_L} {x0 : Nat} : pm_ev 9 18 pl (.ref x0 :: st) w = pm_kv 9 21 pl st w (pm_gf (w x0) 1 0) := pm_ng pt_9 pt_F_1_19 d9_18
theorem d9_21 : decode cX1_keep 21 = .ok (.iload_n 1, 1) := by decide +kernel
theorem z9_21 {st : List Value} {w : pm_H} {b0 b2 b3 : Option Value} {x0 : Int32} : pm_ev 9 21 [b0, some (.int x0), b2, b3] st w = pm_ev 9 22 [b0, some (.int x0), b2, b3] (.int x0 :: st) w := pm_ny pt_9 d9_21 rfl rfl rfl
theorem d9_22 : decode cX1_keep 22 = .ok (.iastore, 1) := by decide +kernel
theorem z9_22 {st : List Value} {w : pm_H} {pl : pm_L} {x0 : Nat} {x1 : Int32} {x2 : Int32} : pm_ev 9 22 pl (.int x2 :: .int x1 :: .ref x0 :: st) w = pm_kw 9 23 pl st (pm_is w x0 (w x0) x1 x2) := pm_nis pt_9 d9_22
theorem d9_23 : decode cX1_keep 23 = .ok (.aload_n 0, 1) := by decide +kernel
theorem z9_23 {st : List Value} {w : pm_H} {b1 b2 b3 : Option Value} {x0 : Nat} : pm_ev 9 23 [some (.ref x0), b1, b2, b3] st w = pm_ev 9 24 [some (.ref x0), b1, b2, b3] (.ref x0 :: st) w := pm_ny pt_9 d9_23 rfl rfl rfl
theorem d9_24 : decode cX1_keep 24 = .ok (.getfield 13, 3) := by decide +kernel
theorem z9_24 {st : List Value} {w : pm_H} {pl : pm_L} {x0 : Nat} : pm_ev 9 24 pl (.ref x0 :: st) w = pm_kv 9 27 pl st w (pm_gf (w x0) 1 2) := pm_ng pt_9 pt_F_1_13 d9_24
theorem d9_27 : decode cX1_keep 27 = .ok (.aload_n 0, 1) := by decide +kernel
theorem z9_27 {st : List Value} {w : pm_H} {b1 b2 b3 : Option Value} {x0 : Nat} : pm_ev 9 27 [some (.ref x0), b1, b2, b3] st w = pm_ev 9 28 [some (.ref x0), b1, b2, b3] (.ref x0 :: st) w := pm_ny pt_9 d9_27 rfl rfl rfl
theorem d9_28 : decode cX1_keep 28 = .ok (.getfield 19, 3) := by decide +kernel
theorem z9_28 {st : List Value} {w : pm_H} {pl : pm_L} {x0 : Nat} : pm_ev 9 28 pl (.ref x0 :: st) w = pm_kv 9 31 pl st w (pm_gf (w x0) 1 0) := pm_ng pt_9 pt_F_1_19 d9_28
theorem d9_31 : decode cX1_keep 31 = .ok (.iload_n 2, 1) := by decide +kernel
theorem z9_31 {st : List Value} {w : pm_H} {b0 b1 b3 : Option Value} {x0 : Int32} : pm_ev 9 31 [b0, b1, some (.int x0), b3] st w = pm_ev 9 32 [b0, b1, some (.int x0), b3] (.int x0 :: st) w := pm_ny pt_9 d9_31 rfl rfl rfl
theorem d9_32 : decode cX1_keep 32 = .ok (.iastore, 1) := by decide +kernel
theorem z9_32 {st : List Value} {w : pm_H} {pl : pm_L} {x0 : Nat} {x1 : Int32} {x2 : Int32} : pm_ev 9 32 pl (.int x2 :: .int x1 :: .ref x0 :: st) w = pm_kw 9 33 pl st (pm_is w x0 (w x0) x1 x2) := pm_nis pt_9 d9_32
theorem d9_33 : decode cX1_keep 33 = .ok (.aload_n 0, 1) := by decide +kernel
theorem z9_33 {st : List Value} {w : pm_H} {b1 b2 b3 : Option Value} {x0 : Nat} : pm_ev 9 33 [some (.ref x0), b1, b2, b3] st w = pm_ev 9 34 [some (.ref x0), b1, b2, b3] (.ref x0 :: st) w := pm_ny pt_9 d9_33 rfl rfl rfl
theorem d9_34 : decode cX1_keep 34 = .ok (.getfield 16, 3) := by decide +kernel
theorem z9_34 {st : List Value} {w : pm_H} {pl : pm_L} {x0 : Nat} : pm_ev 9 34 pl (.ref x0 :: st) w = pm_kv 9 37 pl st w (pm_gf (w x0) 1 3) := pm_ng pt_9 pt_F_1_16 d9_34
theorem d9_37 : decode cX1_keep 37 = .ok (.aload_n 0, 1) := by decide +kernel
theorem z9_37 {st : List Value} {w : pm_H} {b1 b2 b3 : Option Value} {x0 : Nat} : pm_ev 9 37 [some (.ref x0), b1, b2, b3] st w = pm_ev 9 38 [some (.ref x0), b1, b2, b3] (.ref x0 :: st) w := pm_ny pt_9 d9_37 rfl rfl rfl
theorem d9_38 : decode cX1_keep 38 = .ok (.getfield 19, 3) := by decide +kernel
theorem z9_38 {st : List Value} {w : pm_H} {pl : pm_L} {x0 : Nat} : pm_ev 9 38 pl (.ref x0 :: st) w = pm_kv 9 41 pl st w (pm_gf (w x0) 1 0) := pm_ng pt_9 pt_F_1_19 d9_38
theorem d9_41 : decode cX1_keep 41 = .ok (.iload_n 3, 1) := by decide +kernel
theorem z9_41 {st : List Value} {w : pm_H} {b0 b1 b2 : Option Value} {x0 : Int32} : pm_ev 9 41 [b0, b1, b2, some (.int x0)] st w = pm_ev 9 42 [b0, b1, b2, some (.int x0)] (.int x0 :: st) w := pm_ny pt_9 d9_41 rfl rfl rfl
theorem d9_42 : decode cX1_keep 42 = .ok (.iastore, 1) := by decide +kernel
theorem z9_42 {st : List Value} {w : pm_H} {pl : pm_L} {x0 : Nat} {x1 : Int32} {x2 : Int32} : pm_ev 9 42 pl (.int x2 :: .int x1 :: .ref x0 :: st) w = pm_kw 9 43 pl st (pm_is w x0 (w x0) x1 x2) := pm_nis pt_9 d9_42
theorem d9_43 : decode cX1_keep 43 = .ok (.aload_n 0, 1) := by decide +kernel
theorem z9_43 {st : List Value} {w : pm_H} {b1 b2 b3 : Option Value} {x0 : Nat} : pm_ev 9 43 [some (.ref x0), b1, b2, b3] st w = pm_ev 9 44 [some (.ref x0), b1, b2, b3] (.ref x0 :: st) w := pm_ny pt_9 d9_43 rfl rfl rfl
theorem d9_44 : decode cX1_keep 44 = .ok (.dup, 1) := by decide +kernel
theorem z9_44 {st : List Value} {w : pm_H} {pl : pm_L} {x0 : Nat} : pm_ev 9 44 pl (.ref x0 :: st) w = pm_ev 9 45 pl (.ref x0 :: .ref x0 :: st) w := pm_ny pt_9 d9_44 rfl rfl rfl
theorem d9_45 : decode cX1_keep 45 = .ok (.getfield 19, 3) := by decide +kernel
theorem z9_45 {st : List Value} {w : pm_H} {pl : pm_L} {x0 : Nat} : pm_ev 9 45 pl (.ref x0 :: st) w = pm_kv 9 48 pl st w (pm_gf (w x0) 1 0) := pm_ng pt_9 pt_F_1_19 d9_45
theorem d9_48 : decode cX1_keep 48 = .ok (.iconst 1, 1) := by decide +kernel
theorem z9_48 {st : List Value} {w : pm_H} {pl : pm_L} : pm_ev 9 48 pl st w = pm_ev 9 49 pl (.int 1 :: st) w := pm_ny pt_9 d9_48 rfl rfl rfl
theorem d9_49 : decode cX1_keep 49 = .ok (.iadd, 1) := by decide +kernel
theorem z9_49 {st : List Value} {w : pm_H} {pl : pm_L} {x0 x1 : Int32} : pm_ev 9 49 pl (.int x1 :: .int x0 :: st) w = pm_ev 9 50 pl (.int (x0 + x1) :: st) w := pm_ny pt_9 d9_49 rfl rfl rfl
theorem d9_50 : decode cX1_keep 50 = .ok (.putfield 19, 3) := by decide +kernel
theorem z9_50 {st : List Value} {w : pm_H} {pl : pm_L} {x0 : Nat} {x1 : Int32} : pm_ev 9 50 pl (.int x1 :: .ref x0 :: st) w = pm_kw 9 53 pl st (pm_pf w x0 (w x0) 1 0 0 (.int x1)) := pm_np pt_9 pt_F_1_19 d9_50
theorem d9_53 : decode cX1_keep 53 = .ok (.return_, 1) := by decide +kernel
theorem z9_53 {w : pm_H} {pl : pm_L} : pm_ev 9 53 pl [] w = some (none, w) := pm_nr pt_9 d9_53 rfl
theorem d10_0 : decode cX1_forgetOldest 0 = .ok (.iconst 1, 1) := by decide +kernel
theorem z10_0 {st : List Value} {w : pm_H} {pl : pm_L} : pm_ev 10 0 pl st w = pm_ev 10 1 pl (.int 1 :: st) w := pm_ny pt_10 d10_0 rfl rfl rfl
theorem d10_1 : decode cX1_forgetOldest 1 = .ok (.istore_n 1, 1) := by decide +kernel
theorem z10_1 {st : List Value} {w : pm_H} {b1 : Option Value} {x0 : Int32} {x9 : Nat} : pm_ev 10 1 [some (.ref x9), b1] (.int x0 :: st) w = pm_ev 10 2 [some (.ref x9), some (.int x0)] st w := pm_ny pt_10 d10_1 rfl rfl rfl
theorem d10_2 : decode cX1_forgetOldest 2 = .ok (.iload_n 1, 1) := by decide +kernel
theorem z10_2 {st : List Value} {w : pm_H} {b0 : Option Value} {x0 : Int32} : pm_ev 10 2 [b0, some (.int x0)] st w = pm_ev 10 3 [b0, some (.int x0)] (.int x0 :: st) w := pm_ny pt_10 d10_2 rfl rfl rfl
theorem d10_3 : decode cX1_forgetOldest 3 = .ok (.bipush 10, 2) := by decide +kernel
theorem z10_3 {st : List Value} {w : pm_H} {pl : pm_L} : pm_ev 10 3 pl st w = pm_ev 10 5 pl (.int 10 :: st) w := pm_ny pt_10 d10_3 rfl rfl rfl
theorem d10_5 : decode cX1_forgetOldest 5 = .ok (.if_icmp .ge 51, 3) := by decide +kernel
theorem z10_5 {st : List Value} {w : pm_H} {pl : pm_L} {x0 x1 : Int32} : pm_ev 10 5 pl (.int x1 :: .int x0 :: st) w = if x0 < x1 then pm_ev 10 8 pl st w else pm_ev 10 56 pl st w := pm_nin (c := x1 ≤ x0) pt_10 d10_5 rfl rfl rfl pm_ge
theorem d10_8 : decode cX1_forgetOldest 8 = .ok (.aload_n 0, 1) := by decide +kernel
theorem z10_8 {st : List Value} {w : pm_H} {b1 : Option Value} {x0 : Nat} : pm_ev 10 8 [some (.ref x0), b1] st w = pm_ev 10 9 [some (.ref x0), b1] (.ref x0 :: st) w := pm_ny pt_10 d10_8 rfl rfl rfl
theorem d10_9 : decode cX1_forgetOldest 9 = .ok (.getfield 9, 3) := by decide +kernel
theorem z10_9 {st : List Value} {w : pm_H} {pl : pm_L} {x0 : Nat} : pm_ev 10 9 pl (.ref x0 :: st) w = pm_kv 10 12 pl st w (pm_gf (w x0) 1 1) := pm_ng pt_10 pt_F_1_9 d10_9
theorem d10_12 : decode cX1_forgetOldest 12 = .ok (.iload_n 1, 1) := by decide +kernel
theorem z10_12 {st : List Value} {w : pm_H} {b0 : Option Value} {x0 : Int32} : pm_ev 10 12 [b0, some (.int x0)] st w = pm_ev 10 13 [b0, some (.int x0)] (.int x0 :: st) w := pm_ny pt_10 d10_12 rfl rfl rfl
theorem d10_13 : decode cX1_forgetOldest 13 = .ok (.iconst 1, 1) := by decide +kernel
theorem z10_13 {st : List Value} {w : pm_H} {pl : pm_L} : pm_ev 10 13 pl st w = pm_ev 10 14 pl (.int 1 :: st) w := pm_ny pt_10 d10_13 rfl rfl rfl
theorem d10_14 : decode cX1_forgetOldest 14 = .ok (.isub, 1) := by decide +kernel
theorem z10_14 {st : List Value} {w : pm_H} {pl : pm_L} {x0 x1 : Int32} : pm_ev 10 14 pl (.int x1 :: .int x0 :: st) w = pm_ev 10 15 pl (.int (x0 - x1) :: st) w := pm_ny pt_10 d10_14 rfl rfl rfl
theorem d10_15 : decode cX1_forgetOldest 15 = .ok (.aload_n 0, 1) := by decide +kernel
theorem z10_15 {st : List Value} {w : pm_H} {b1 : Option Value} {x0 : Nat} : pm_ev 10 15 [some (.ref x0), b1] st w = pm_ev 10 16 [some (.ref x0), b1] (.ref x0 :: st) w := pm_ny pt_10 d10_15 rfl rfl rfl
theorem d10_16 : decode cX1_forgetOldest 16 = .ok (.getfield 9, 3) := by decide +kernel
theorem z10_16 {st : List Value} {w : pm_H} {pl : pm_L} {x0 : Nat} : pm_ev 10 16 pl (.ref x0 :: st) w = pm_kv 10 19 pl st w (pm_gf (w x0) 1 1) := pm_ng pt_10 pt_F_1_9 d10_16
theorem d10_19 : decode cX1_forgetOldest 19 = .ok (.iload_n 1, 1) := by decide +kernel
theorem z10_19 {st : List Value} {w : pm_H} {b0 : Option Value} {x0 : Int32} : pm_ev 10 19 [b0, some (.int x0)] st w = pm_ev 10 20 [b0, some (.int x0)] (.int x0 :: st) w := pm_ny pt_10 d10_19 rfl rfl rfl
theorem d10_20 : decode cX1_forgetOldest 20 = .ok (.iaload, 1) := by decide +kernel
theorem z10_20 {st : List Value} {w : pm_H} {pl : pm_L} {x0 : Nat} {x1 : Int32} : pm_ev 10 20 pl (.int x1 :: .ref x0 :: st) w = pm_kv 10 21 pl st w (pm_ia (w x0) 0 x1) := pm_nia pt_10 d10_20
theorem d10_21 : decode cX1_forgetOldest 21 = .ok (.iastore, 1) := by decide +kernel
theorem z10_21 {st : List Value} {w : pm_H} {pl : pm_L} {x0 : Nat} {x1 : Int32} {x2 : Int32} : pm_ev 10 21 pl (.int x2 :: .int x1 :: .ref x0 :: st) w = pm_kw 10 22 pl st (pm_is w x0 (w x0) x1 x2) := pm_nis pt_10 d10_21
theorem d10_22 : decode cX1_forgetOldest 22 = .ok (.aload_n 0, 1) := by decide +kernel
theorem z10_22 {st : List Value} {w : pm_H} {b1 : Option Value} {x0 : Nat} : pm_ev 10 22 [some (.ref x0), b1] st w = pm_ev 10 23 [some (.ref x0), b1] (.ref x0 :: st) w := pm_ny pt_10 d10_22 rfl rfl rfl
theorem d10_23 : decode cX1_forgetOldest 23 = .ok (.getfield 13, 3) := by decide +kernel
theorem z10_23 {st : List Value} {w : pm_H} {pl : pm_L} {x0 : Nat} : pm_ev 10 23 pl (.ref x0 :: st) w = pm_kv 10 26 pl st w (pm_gf (w x0) 1 2) := pm_ng pt_10 pt_F_1_13 d10_23
theorem d10_26 : decode cX1_forgetOldest 26 = .ok (.iload_n 1, 1) := by decide +kernel
theorem z10_26 {st : List Value} {w : pm_H} {b0 : Option Value} {x0 : Int32} : pm_ev 10 26 [b0, some (.int x0)] st w = pm_ev 10 27 [b0, some (.int x0)] (.int x0 :: st) w := pm_ny pt_10 d10_26 rfl rfl rfl
theorem d10_27 : decode cX1_forgetOldest 27 = .ok (.iconst 1, 1) := by decide +kernel
theorem z10_27 {st : List Value} {w : pm_H} {pl : pm_L} : pm_ev 10 27 pl st w = pm_ev 10 28 pl (.int 1 :: st) w := pm_ny pt_10 d10_27 rfl rfl rfl
theorem d10_28 : decode cX1_forgetOldest 28 = .ok (.isub, 1) := by decide +kernel
theorem z10_28 {st : List Value} {w : pm_H} {pl : pm_L} {x0 x1 : Int32} : pm_ev 10 28 pl (.int x1 :: .int x0 :: st) w = pm_ev 10 29 pl (.int (x0 - x1) :: st) w := pm_ny pt_10 d10_28 rfl rfl rfl
theorem d10_29 : decode cX1_forgetOldest 29 = .ok (.aload_n 0, 1) := by decide +kernel
theorem z10_29 {st : List Value} {w : pm_H} {b1 : Option Value} {x0 : Nat} : pm_ev 10 29 [some (.ref x0), b1] st w = pm_ev 10 30 [some (.ref x0), b1] (.ref x0 :: st) w := pm_ny pt_10 d10_29 rfl rfl rfl
theorem d10_30 : decode cX1_forgetOldest 30 = .ok (.getfield 13, 3) := by decide +kernel
theorem z10_30 {st : List Value} {w : pm_H} {pl : pm_L} {x0 : Nat} : pm_ev 10 30 pl (.ref x0 :: st) w = pm_kv 10 33 pl st w (pm_gf (w x0) 1 2) := pm_ng pt_10 pt_F_1_13 d10_30
theorem d10_33 : decode cX1_forgetOldest 33 = .ok (.iload_n 1, 1) := by decide +kernel
theorem z10_33 {st : List Value} {w : pm_H} {b0 : Option Value} {x0 : Int32} : pm_ev 10 33 [b0, some (.int x0)] st w = pm_ev 10 34 [b0, some (.int x0)] (.int x0 :: st) w := pm_ny pt_10 d10_33 rfl rfl rfl
theorem d10_34 : decode cX1_forgetOldest 34 = .ok (.iaload, 1) := by decide +kernel
theorem z10_34 {st : List Value} {w : pm_H} {pl : pm_L} {x0 : Nat} {x1 : Int32} : pm_ev 10 34 pl (.int x1 :: .ref x0 :: st) w = pm_kv 10 35 pl st w (pm_ia (w x0) 0 x1) := pm_nia pt_10 d10_34
theorem d10_35 : decode cX1_forgetOldest 35 = .ok (.iastore, 1) := by decide +kernel
theorem z10_35 {st : List Value} {w : pm_H} {pl : pm_L} {x0 : Nat} {x1 : Int32} {x2 : Int32} : pm_ev 10 35 pl (.int x2 :: .int x1 :: .ref x0 :: st) w = pm_kw 10 36 pl st (pm_is w x0 (w x0) x1 x2) := pm_nis pt_10 d10_35
theorem d10_36 : decode cX1_forgetOldest 36 = .ok (.aload_n 0, 1) := by decide +kernel
theorem z10_36 {st : List Value} {w : pm_H} {b1 : Option Value} {x0 : Nat} : pm_ev 10 36 [some (.ref x0), b1] st w = pm_ev 10 37 [some (.ref x0), b1] (.ref x0 :: st) w := pm_ny pt_10 d10_36 rfl rfl rfl
theorem d10_37 : decode cX1_forgetOldest 37 = .ok (.getfield 16, 3) := by decide +kernel
theorem z10_37 {st : List Value} {w : pm_H} {pl : pm_L} {x0 : Nat} : pm_ev 10 37 pl (.ref x0 :: st) w = pm_kv 10 40 pl st w (pm_gf (w x0) 1 3) := pm_ng pt_10 pt_F_1_16 d10_37
theorem d10_40 : decode cX1_forgetOldest 40 = .ok (.iload_n 1, 1) := by decide +kernel
theorem z10_40 {st : List Value} {w : pm_H} {b0 : Option Value} {x0 : Int32} : pm_ev 10 40 [b0, some (.int x0)] st w = pm_ev 10 41 [b0, some (.int x0)] (.int x0 :: st) w := pm_ny pt_10 d10_40 rfl rfl rfl
theorem d10_41 : decode cX1_forgetOldest 41 = .ok (.iconst 1, 1) := by decide +kernel
theorem z10_41 {st : List Value} {w : pm_H} {pl : pm_L} : pm_ev 10 41 pl st w = pm_ev 10 42 pl (.int 1 :: st) w := pm_ny pt_10 d10_41 rfl rfl rfl
theorem d10_42 : decode cX1_forgetOldest 42 = .ok (.isub, 1) := by decide +kernel
theorem z10_42 {st : List Value} {w : pm_H} {pl : pm_L} {x0 x1 : Int32} : pm_ev 10 42 pl (.int x1 :: .int x0 :: st) w = pm_ev 10 43 pl (.int (x0 - x1) :: st) w := pm_ny pt_10 d10_42 rfl rfl rfl
theorem d10_43 : decode cX1_forgetOldest 43 = .ok (.aload_n 0, 1) := by decide +kernel
theorem z10_43 {st : List Value} {w : pm_H} {b1 : Option Value} {x0 : Nat} : pm_ev 10 43 [some (.ref x0), b1] st w = pm_ev 10 44 [some (.ref x0), b1] (.ref x0 :: st) w := pm_ny pt_10 d10_43 rfl rfl rfl
theorem d10_44 : decode cX1_forgetOldest 44 = .ok (.getfield 16, 3) := by decide +kernel
theorem z10_44 {st : List Value} {w : pm_H} {pl : pm_L} {x0 : Nat} : pm_ev 10 44 pl (.ref x0 :: st) w = pm_kv 10 47 pl st w (pm_gf (w x0) 1 3) := pm_ng pt_10 pt_F_1_16 d10_44
theorem d10_47 : decode cX1_forgetOldest 47 = .ok (.iload_n 1, 1) := by decide +kernel
theorem z10_47 {st : List Value} {w : pm_H} {b0 : Option Value} {x0 : Int32} : pm_ev 10 47 [b0, some (.int x0)] st w = pm_ev 10 48 [b0, some (.int x0)] (.int x0 :: st) w := pm_ny pt_10 d10_47 rfl rfl rfl
theorem d10_48 : decode cX1_forgetOldest 48 = .ok (.iaload, 1) := by decide +kernel
theorem z10_48 {st : List Value} {w : pm_H} {pl : pm_L} {x0 : Nat} {x1 : Int32} : pm_ev 10 48 pl (.int x1 :: .ref x0 :: st) w = pm_kv 10 49 pl st w (pm_ia (w x0) 0 x1) := pm_nia pt_10 d10_48
theorem d10_49 : decode cX1_forgetOldest 49 = .ok (.iastore, 1) := by decide +kernel
theorem z10_49 {st : List Value} {w : pm_H} {pl : pm_L} {x0 : Nat} {x1 : Int32} {x2 : Int32} : pm_ev 10 49 pl (.int x2 :: .int x1 :: .ref x0 :: st) w = pm_kw 10 50 pl st (pm_is w x0 (w x0) x1 x2) := pm_nis pt_10 d10_49
theorem d10_50 : decode cX1_forgetOldest 50 = .ok (.iinc 1 1, 3) := by decide +kernel
theorem z10_50 {st : List Value} {w : pm_H}  {x0 : Int32} {x9 : Nat} : pm_ev 10 50 [some (.ref x9), some (.int x0)] st w = pm_ev 10 53 [some (.ref x9), some (.int (x0 + 1))] st w := pm_ny pt_10 d10_50 rfl rfl rfl
theorem d10_53 : decode cX1_forgetOldest 53 = .ok (.goto (-51), 3) := by decide +kernel
theorem z10_53 {st : List Value} {w : pm_H} {pl : pm_L} : pm_ev 10 53 pl st w = pm_ev 10 2 pl st w := pm_ny pt_10 d10_53 rfl rfl rfl
theorem d10_56 : decode cX1_forgetOldest 56 = .ok (.aload_n 0, 1) := by decide +kernel
theorem z10_56 {st : List Value} {w : pm_H} {b1 : Option Value} {x0 : Nat} : pm_ev 10 56 [some (.ref x0), b1] st w = pm_ev 10 57 [some (.ref x0), b1] (.ref x0 :: st) w := pm_ny pt_10 d10_56 rfl rfl rfl
theorem d10_57 : decode cX1_forgetOldest 57 = .ok (.bipush 9, 2) := by decide +kernel
theorem z10_57 {st : List Value} {w : pm_H} {pl : pm_L} : pm_ev 10 57 pl st w = pm_ev 10 59 pl (.int 9 :: st) w := pm_ny pt_10 d10_57 rfl rfl rfl
theorem d10_59 : decode cX1_forgetOldest 59 = .ok (.putfield 19, 3) := by decide +kernel
theorem z10_59 {st : List Value} {w : pm_H} {pl : pm_L} {x0 : Nat} {x1 : Int32} : pm_ev 10 59 pl (.int x1 :: .ref x0 :: st) w = pm_kw 10 62 pl st (pm_pf w x0 (w x0) 1 0 0 (.int x1)) := pm_np pt_10 pt_F_1_19 d10_59
theorem d10_62 : decode cX1_forgetOldest 62 = .ok (.return_, 1) := by decide +kernel
theorem z10_62 {w : pm_H} {pl : pm_L} : pm_ev 10 62 pl [] w = some (none, w) := pm_nr pt_10 d10_62 rfl
theorem d11_0 : decode cX1_takeBack 0 = .ok (.aload_n 0, 1) := by decide +kernel
theorem z11_0 {st : List Value} {w : pm_H} {b1 : Option Value} {x0 : Nat} : pm_ev 11 0 [some (.ref x0), b1] st w = pm_ev 11 1 [some (.ref x0), b1] (.ref x0 :: st) w := pm_ny pt_11 d11_0 rfl rfl rfl
theorem d11_1 : decode cX1_takeBack 1 = .ok (.getfield 19, 3) := by decide +kernel
theorem z11_1 {st : List Value} {w : pm_H} {pl : pm_L} {x0 : Nat} : pm_ev 11 1 pl (.ref x0 :: st) w = pm_kv 11 4 pl st w (pm_gf (w x0) 1 0) := pm_ng pt_11 pt_F_1_19 d11_1
theorem d11_4 : decode cX1_takeBack 4 = .ok (.ifCond .gt 4, 3) := by decide +kernel
theorem z11_4 {st : List Value} {w : pm_H} {pl : pm_L} {x0 : Int32} : pm_ev 11 4 pl (.int x0 :: st) w = if 0 < x0 then pm_ev 11 8 pl st w else pm_ev 11 7 pl st w := pm_nif pt_11 d11_4 rfl rfl rfl
theorem d11_7 : decode cX1_takeBack 7 = .ok (.return_, 1) := by decide +kernel
theorem z11_7 {w : pm_H} {pl : pm_L} : pm_ev 11 7 pl [] w = some (none, w) := pm_nr pt_11 d11_7 rfl
theorem d11_8 : decode cX1_takeBack 8 = .ok (.aload_n 0, 1) := by decide +kernel
theorem z11_8 {st : List Value} {w : pm_H} {b1 : Option Value} {x0 : Nat} : pm_ev 11 8 [some (.ref x0), b1] st w = pm_ev 11 9 [some (.ref x0), b1] (.ref x0 :: st) w := pm_ny pt_11 d11_8 rfl rfl rfl
theorem d11_9 : decode cX1_takeBack 9 = .ok (.dup, 1) := by decide +kernel
theorem z11_9 {st : List Value} {w : pm_H} {pl : pm_L} {x0 : Nat} : pm_ev 11 9 pl (.ref x0 :: st) w = pm_ev 11 10 pl (.ref x0 :: .ref x0 :: st) w := pm_ny pt_11 d11_9 rfl rfl rfl
theorem d11_10 : decode cX1_takeBack 10 = .ok (.getfield 19, 3) := by decide +kernel
theorem z11_10 {st : List Value} {w : pm_H} {pl : pm_L} {x0 : Nat} : pm_ev 11 10 pl (.ref x0 :: st) w = pm_kv 11 13 pl st w (pm_gf (w x0) 1 0) := pm_ng pt_11 pt_F_1_19 d11_10
theorem d11_13 : decode cX1_takeBack 13 = .ok (.iconst 1, 1) := by decide +kernel
theorem z11_13 {st : List Value} {w : pm_H} {pl : pm_L} : pm_ev 11 13 pl st w = pm_ev 11 14 pl (.int 1 :: st) w := pm_ny pt_11 d11_13 rfl rfl rfl
theorem d11_14 : decode cX1_takeBack 14 = .ok (.isub, 1) := by decide +kernel
theorem z11_14 {st : List Value} {w : pm_H} {pl : pm_L} {x0 x1 : Int32} : pm_ev 11 14 pl (.int x1 :: .int x0 :: st) w = pm_ev 11 15 pl (.int (x0 - x1) :: st) w := pm_ny pt_11 d11_14 rfl rfl rfl
theorem d11_15 : decode cX1_takeBack 15 = .ok (.putfield 19, 3) := by decide +kernel
theorem z11_15 {st : List Value} {w : pm_H} {pl : pm_L} {x0 : Nat} {x1 : Int32} : pm_ev 11 15 pl (.int x1 :: .ref x0 :: st) w = pm_kw 11 18 pl st (pm_pf w x0 (w x0) 1 0 0 (.int x1)) := pm_np pt_11 pt_F_1_19 d11_15
theorem d11_18 : decode cX1_takeBack 18 = .ok (.aload_n 0, 1) := by decide +kernel
theorem z11_18 {st : List Value} {w : pm_H} {b1 : Option Value} {x0 : Nat} : pm_ev 11 18 [some (.ref x0), b1] st w = pm_ev 11 19 [some (.ref x0), b1] (.ref x0 :: st) w := pm_ny pt_11 d11_18 rfl rfl rfl
theorem d11_19 : decode cX1_takeBack 19 = .ok (.getfield 9, 3) := by decide +kernel
theorem z11_19 {st : List Value} {w : pm_H} {pl : pm_L} {x0 : Nat} : pm_ev 11 19 pl (.ref x0 :: st) w = pm_kv 11 22 pl st w (pm_gf (w x0) 1 1) := pm_ng pt_11 pt_F_1_9 d11_19
theorem d11_22 : decode cX1_takeBack 22 = .ok (.aload_n 0, 1) := by decide +kernel
theorem z11_22 {st : List Value} {w : pm_H} {b1 : Option Value} {x0 : Nat} : pm_ev 11 22 [some (.ref x0), b1] st w = pm_ev 11 23 [some (.ref x0), b1] (.ref x0 :: st) w := pm_ny pt_11 d11_22 rfl rfl rfl
theorem d11_23 : decode cX1_takeBack 23 = .ok (.getfield 19, 3) := by decide +kernel
theorem z11_23 {st : List Value} {w : pm_H} {pl : pm_L} {x0 : Nat} : pm_ev 11 23 pl (.ref x0 :: st) w = pm_kv 11 26 pl st w (pm_gf (w x0) 1 0) := pm_ng pt_11 pt_F_1_19 d11_23
theorem d11_26 : decode cX1_takeBack 26 = .ok (.iaload, 1) := by decide +kernel
theorem z11_26 {st : List Value} {w : pm_H} {pl : pm_L} {x0 : Nat} {x1 : Int32} : pm_ev 11 26 pl (.int x1 :: .ref x0 :: st) w = pm_kv 11 27 pl st w (pm_ia (w x0) 0 x1) := pm_nia pt_11 d11_26
theorem d11_27 : decode cX1_takeBack 27 = .ok (.tableswitch 65 0 2 #[25, 32, 39], 25) := by decide +kernel
theorem z11_27 {st : List Value} {w : pm_H} {pl : pm_L} {x0 : Int32} : pm_ev 11 27 pl (.int x0 :: st) w = if x0 = 0 then pm_ev 11 52 pl st w else if x0 = 1 then pm_ev 11 59 pl st w else if x0 = 2 then pm_ev 11 66 pl st w else pm_ev 11 92 pl st w := by
  by_cases h0 : x0 = 0
  · subst h0; exact pm_ny pt_11 d11_27 rfl rfl rfl
  by_cases h1 : x0 = 1
  · subst h1; exact pm_ny pt_11 d11_27 rfl rfl rfl
  by_cases h2 : x0 = 2
  · subst h2; exact pm_ny pt_11 d11_27 rfl rfl rfl
  rw [if_neg h0, if_neg h1, if_neg h2]
  have hx : x0.toInt < 0 ∨ 2 < x0.toInt := by
    have e0 : x0.toInt ≠ 0 := fun h => h0 (Int32.toInt_inj.mp (h.trans (by decide)))
    have e1 : x0.toInt ≠ 1 := fun h => h1 (Int32.toInt_inj.mp (h.trans (by decide)))
    have e2 : x0.toInt ≠ 2 := fun h => h2 (Int32.toInt_inj.mp (h.trans (by decide)))
    omega
  exact pm_ny (pc' := 92) (pl' := pl) (st' := st) (w' := w) pt_11 d11_27 rfl rfl (show pm_or (if x0.toInt < 0 ∨ 2 < x0.toInt then some (92, pl, st, w) else _) _ = _ by rw [if_pos hx]; rfl)
theorem d11_52 : decode cX1_takeBack 52 = .ok (.aload_n 1, 1) := by decide +kernel
theorem z11_52 {st : List Value} {w : pm_H} {b0 : Option Value} {x0 : Nat} : pm_ev 11 52 [b0, some (.ref x0)] st w = pm_ev 11 53 [b0, some (.ref x0)] (.ref x0 :: st) w := pm_ny pt_11 d11_52 rfl rfl rfl
theorem d11_53 : decode cX1_takeBack 53 = .ok (.invokevirtual 26, 3) := by decide +kernel
theorem z11_53 {w : pm_H} {b0 b1 : Option Value} {x0 : Nat} : pm_ev 11 53 [b0, b1] [.ref x0] w = pm_k 11 56 [b0, b1] [] (pm_vc (w x0) 4 (pm_call 44 [.ref x0] w)) := pm_nv pt_11 pt_44 pt_M_1_26 d11_53 ⟨rfl, rfl⟩ ⟨⟨rfl, Nat.le_of_ble_eq_true rfl, Nat.le_of_ble_eq_true rfl, Nat.le_of_ble_eq_true rfl, Nat.le_of_ble_eq_true rfl⟩, rfl⟩
theorem d11_56 : decode cX1_takeBack 56 = .ok (.goto 59, 3) := by decide +kernel
theorem z11_56 {st : List Value} {w : pm_H} {pl : pm_L} : pm_ev 11 56 pl st w = pm_ev 11 115 pl st w := pm_ny pt_11 d11_56 rfl rfl rfl
theorem d11_59 : decode cX1_takeBack 59 = .ok (.aload_n 1, 1) := by decide +kernel
theorem z11_59 {st : List Value} {w : pm_H} {b0 : Option Value} {x0 : Nat} : pm_ev 11 59 [b0, some (.ref x0)] st w = pm_ev 11 60 [b0, some (.ref x0)] (.ref x0 :: st) w := pm_ny pt_11 d11_59 rfl rfl rfl
theorem d11_60 : decode cX1_takeBack 60 = .ok (.invokevirtual 31, 3) := by decide +kernel
theorem z11_60 {w : pm_H} {b0 b1 : Option Value} {x0 : Nat} : pm_ev 11 60 [b0, b1] [.ref x0] w = pm_k 11 63 [b0, b1] [] (pm_vc (w x0) 4 (pm_call 45 [.ref x0] w)) := pm_nv pt_11 pt_45 pt_M_1_31 d11_60 ⟨rfl, rfl⟩ ⟨⟨rfl, Nat.le_of_ble_eq_true rfl, Nat.le_of_ble_eq_true rfl, Nat.le_of_ble_eq_true rfl, Nat.le_of_ble_eq_true rfl⟩, rfl⟩
theorem d11_63 : decode cX1_takeBack 63 = .ok (.goto 52, 3) := by decide +kernel
theorem z11_63 {st : List Value} {w : pm_H} {pl : pm_L} : pm_ev 11 63 pl st w = pm_ev 11 115 pl st w := pm_ny pt_11 d11_63 rfl rfl rfl
theorem d11_66 : decode cX1_takeBack 66 = .ok (.aload_n 1, 1) := by decide +kernel
theorem z11_66 {st : List Value} {w : pm_H} {b0 : Option Value} {x0 : Nat} : pm_ev 11 66 [b0, some (.ref x0)] st w = pm_ev 11 67 [b0, some (.ref x0)] (.ref x0 :: st) w := pm_ny pt_11 d11_66 rfl rfl rfl
theorem d11_67 : decode cX1_takeBack 67 = .ok (.getfield 34, 3) := by decide +kernel
theorem z11_67 {st : List Value} {w : pm_H} {pl : pm_L} {x0 : Nat} : pm_ev 11 67 pl (.ref x0 :: st) w = pm_kv 11 70 pl st w (pm_gf (w x0) 4 1) := pm_ng pt_11 pt_F_1_34 d11_67
theorem d11_70 : decode cX1_takeBack 70 = .ok (.aload_n 0, 1) := by decide +kernel
theorem z11_70 {st : List Value} {w : pm_H} {b1 : Option Value} {x0 : Nat} : pm_ev 11 70 [some (.ref x0), b1] st w = pm_ev 11 71 [some (.ref x0), b1] (.ref x0 :: st) w := pm_ny pt_11 d11_70 rfl rfl rfl
theorem d11_71 : decode cX1_takeBack 71 = .ok (.getfield 13, 3) := by decide +kernel
theorem z11_71 {st : List Value} {w : pm_H} {pl : pm_L} {x0 : Nat} : pm_ev 11 71 pl (.ref x0 :: st) w = pm_kv 11 74 pl st w (pm_gf (w x0) 1 2) := pm_ng pt_11 pt_F_1_13 d11_71
theorem d11_74 : decode cX1_takeBack 74 = .ok (.aload_n 0, 1) := by decide +kernel
theorem z11_74 {st : List Value} {w : pm_H} {b1 : Option Value} {x0 : Nat} : pm_ev 11 74 [some (.ref x0), b1] st w = pm_ev 11 75 [some (.ref x0), b1] (.ref x0 :: st) w := pm_ny pt_11 d11_74 rfl rfl rfl
theorem d11_75 : decode cX1_takeBack 75 = .ok (.getfield 19, 3) := by decide +kernel
theorem z11_75 {st : List Value} {w : pm_H} {pl : pm_L} {x0 : Nat} : pm_ev 11 75 pl (.ref x0 :: st) w = pm_kv 11 78 pl st w (pm_gf (w x0) 1 0) := pm_ng pt_11 pt_F_1_19 d11_75
theorem d11_78 : decode cX1_takeBack 78 = .ok (.iaload, 1) := by decide +kernel
theorem z11_78 {st : List Value} {w : pm_H} {pl : pm_L} {x0 : Nat} {x1 : Int32} : pm_ev 11 78 pl (.int x1 :: .ref x0 :: st) w = pm_kv 11 79 pl st w (pm_ia (w x0) 0 x1) := pm_nia pt_11 d11_78
theorem d11_79 : decode cX1_takeBack 79 = .ok (.aload_n 0, 1) := by decide +kernel
theorem z11_79 {st : List Value} {w : pm_H} {b1 : Option Value} {x0 : Nat} : pm_ev 11 79 [some (.ref x0), b1] st w = pm_ev 11 80 [some (.ref x0), b1] (.ref x0 :: st) w := pm_ny pt_11 d11_79 rfl rfl rfl
theorem d11_80 : decode cX1_takeBack 80 = .ok (.getfield 16, 3) := by decide +kernel
theorem z11_80 {st : List Value} {w : pm_H} {pl : pm_L} {x0 : Nat} : pm_ev 11 80 pl (.ref x0 :: st) w = pm_kv 11 83 pl st w (pm_gf (w x0) 1 3) := pm_ng pt_11 pt_F_1_16 d11_80
theorem d11_83 : decode cX1_takeBack 83 = .ok (.aload_n 0, 1) := by decide +kernel
theorem z11_83 {st : List Value} {w : pm_H} {b1 : Option Value} {x0 : Nat} : pm_ev 11 83 [some (.ref x0), b1] st w = pm_ev 11 84 [some (.ref x0), b1] (.ref x0 :: st) w := pm_ny pt_11 d11_83 rfl rfl rfl
theorem d11_84 : decode cX1_takeBack 84 = .ok (.getfield 19, 3) := by decide +kernel
theorem z11_84 {st : List Value} {w : pm_H} {pl : pm_L} {x0 : Nat} : pm_ev 11 84 pl (.ref x0 :: st) w = pm_kv 11 87 pl st w (pm_gf (w x0) 1 0) := pm_ng pt_11 pt_F_1_19 d11_84
theorem d11_87 : decode cX1_takeBack 87 = .ok (.iaload, 1) := by decide +kernel
theorem z11_87 {st : List Value} {w : pm_H} {pl : pm_L} {x0 : Nat} {x1 : Int32} : pm_ev 11 87 pl (.int x1 :: .ref x0 :: st) w = pm_kv 11 88 pl st w (pm_ia (w x0) 0 x1) := pm_nia pt_11 d11_87
theorem d11_88 : decode cX1_takeBack 88 = .ok (.iastore, 1) := by decide +kernel
theorem z11_88 {st : List Value} {w : pm_H} {pl : pm_L} {x0 : Nat} {x1 : Int32} {x2 : Int32} : pm_ev 11 88 pl (.int x2 :: .int x1 :: .ref x0 :: st) w = pm_kw 11 89 pl st (pm_is w x0 (w x0) x1 x2) := pm_nis pt_11 d11_88
theorem d11_89 : decode cX1_takeBack 89 = .ok (.goto 26, 3) := by decide +kernel
theorem z11_89 {st : List Value} {w : pm_H} {pl : pm_L} : pm_ev 11 89 pl st w = pm_ev 11 115 pl st w := pm_ny pt_11 d11_89 rfl rfl rfl
theorem d11_92 : decode cX1_takeBack 92 = .ok (.aload_n 1, 1) := by decide +kernel
theorem z11_92 {st : List Value} {w : pm_H} {b0 : Option Value} {x0 : Nat} : pm_ev 11 92 [b0, some (.ref x0)] st w = pm_ev 11 93 [b0, some (.ref x0)] (.ref x0 :: st) w := pm_ny pt_11 d11_92 rfl rfl rfl
theorem d11_93 : decode cX1_takeBack 93 = .ok (.getfield 37, 3) := by decide +kernel
theorem z11_93 {st : List Value} {w : pm_H} {pl : pm_L} {x0 : Nat} : pm_ev 11 93 pl (.ref x0 :: st) w = pm_kv 11 96 pl st w (pm_gf (w x0) 4 2) := pm_ng pt_11 pt_F_1_37 d11_93
theorem d11_96 : decode cX1_takeBack 96 = .ok (.aload_n 0, 1) := by decide +kernel
theorem z11_96 {st : List Value} {w : pm_H} {b1 : Option Value} {x0 : Nat} : pm_ev 11 96 [some (.ref x0), b1] st w = pm_ev 11 97 [some (.ref x0), b1] (.ref x0 :: st) w := pm_ny pt_11 d11_96 rfl rfl rfl
theorem d11_97 : decode cX1_takeBack 97 = .ok (.getfield 13, 3) := by decide +kernel
theorem z11_97 {st : List Value} {w : pm_H} {pl : pm_L} {x0 : Nat} : pm_ev 11 97 pl (.ref x0 :: st) w = pm_kv 11 100 pl st w (pm_gf (w x0) 1 2) := pm_ng pt_11 pt_F_1_13 d11_97
theorem d11_100 : decode cX1_takeBack 100 = .ok (.aload_n 0, 1) := by decide +kernel
theorem z11_100 {st : List Value} {w : pm_H} {b1 : Option Value} {x0 : Nat} : pm_ev 11 100 [some (.ref x0), b1] st w = pm_ev 11 101 [some (.ref x0), b1] (.ref x0 :: st) w := pm_ny pt_11 d11_100 rfl rfl rfl
theorem d11_101 : decode cX1_takeBack 101 = .ok (.getfield 19, 3) := by decide +kernel
theorem z11_101 {st : List Value} {w : pm_H} {pl : pm_L} {x0 : Nat} : pm_ev 11 101 pl (.ref x0 :: st) w = pm_kv 11 104 pl st w (pm_gf (w x0) 1 0) := pm_ng pt_11 pt_F_1_19 d11_101
theorem d11_104 : decode cX1_takeBack 104 = .ok (.iaload, 1) := by decide +kernel
theorem z11_104 {st : List Value} {w : pm_H} {pl : pm_L} {x0 : Nat} {x1 : Int32} : pm_ev 11 104 pl (.int x1 :: .ref x0 :: st) w = pm_kv 11 105 pl st w (pm_ia (w x0) 0 x1) := pm_nia pt_11 d11_104
theorem d11_105 : decode cX1_takeBack 105 = .ok (.aload_n 0, 1) := by decide +kernel
theorem z11_105 {st : List Value} {w : pm_H} {b1 : Option Value} {x0 : Nat} : pm_ev 11 105 [some (.ref x0), b1] st w = pm_ev 11 106 [some (.ref x0), b1] (.ref x0 :: st) w := pm_ny pt_11 d11_105 rfl rfl rfl
theorem d11_106 : decode cX1_takeBack 106 = .ok (.getfield 16, 3) := by decide +kernel
theorem z11_106 {st : List Value} {w : pm_H} {pl : pm_L} {x0 : Nat} : pm_ev 11 106 pl (.ref x0 :: st) w = pm_kv 11 109 pl st w (pm_gf (w x0) 1 3) := pm_ng pt_11 pt_F_1_16 d11_106
theorem d11_109 : decode cX1_takeBack 109 = .ok (.aload_n 0, 1) := by decide +kernel
theorem z11_109 {st : List Value} {w : pm_H} {b1 : Option Value} {x0 : Nat} : pm_ev 11 109 [some (.ref x0), b1] st w = pm_ev 11 110 [some (.ref x0), b1] (.ref x0 :: st) w := pm_ny pt_11 d11_109 rfl rfl rfl
theorem d11_110 : decode cX1_takeBack 110 = .ok (.getfield 19, 3) := by decide +kernel
theorem z11_110 {st : List Value} {w : pm_H} {pl : pm_L} {x0 : Nat} : pm_ev 11 110 pl (.ref x0 :: st) w = pm_kv 11 113 pl st w (pm_gf (w x0) 1 0) := pm_ng pt_11 pt_F_1_19 d11_110
theorem d11_113 : decode cX1_takeBack 113 = .ok (.iaload, 1) := by decide +kernel
theorem z11_113 {st : List Value} {w : pm_H} {pl : pm_L} {x0 : Nat} {x1 : Int32} : pm_ev 11 113 pl (.int x1 :: .ref x0 :: st) w = pm_kv 11 114 pl st w (pm_ia (w x0) 0 x1) := pm_nia pt_11 d11_113
theorem d11_114 : decode cX1_takeBack 114 = .ok (.iastore, 1) := by decide +kernel
theorem z11_114 {st : List Value} {w : pm_H} {pl : pm_L} {x0 : Nat} {x1 : Int32} {x2 : Int32} : pm_ev 11 114 pl (.int x2 :: .int x1 :: .ref x0 :: st) w = pm_kw 11 115 pl st (pm_is w x0 (w x0) x1 x2) := pm_nis pt_11 d11_114
theorem d11_115 : decode cX1_takeBack 115 = .ok (.return_, 1) := by decide +kernel
theorem z11_115 {w : pm_H} {pl : pm_L} : pm_ev 11 115 pl [] w = some (none, w) := pm_nr pt_11 d11_115 rfl
theorem d27_0 : decode cX3_hasRoom 0 = .ok (.aload_n 0, 1) := by decide +kernel
theorem z27_0 {st : List Value} {w : pm_H}  {x0 : Nat} : pm_ev 27 0 [some (.ref x0)] st w = pm_ev 27 1 [some (.ref x0)] (.ref x0 :: st) w := pm_ny pt_27 d27_0 rfl rfl rfl
theorem d27_1 : decode cX3_hasRoom 1 = .ok (.getfield 13, 3) := by decide +kernel
theorem z27_1 {st : List Value} {w : pm_H} {pl : pm_L} {x0 : Nat} : pm_ev 27 1 pl (.ref x0 :: st) w = pm_kv 27 4 pl st w (pm_gf (w x0) 3 1) := pm_ng pt_27 pt_F_3_13 d27_1
theorem d27_4 : decode cX3_hasRoom 4 = .ok (.bipush 20, 2) := by decide +kernel
theorem z27_4 {st : List Value} {w : pm_H} {pl : pm_L} : pm_ev 27 4 pl st w = pm_ev 27 6 pl (.int 20 :: st) w := pm_ny pt_27 d27_4 rfl rfl rfl
theorem d27_6 : decode cX3_hasRoom 6 = .ok (.iadd, 1) := by decide +kernel
theorem z27_6 {st : List Value} {w : pm_H} {pl : pm_L} {x0 x1 : Int32} : pm_ev 27 6 pl (.int x1 :: .int x0 :: st) w = pm_ev 27 7 pl (.int (x0 + x1) :: st) w := pm_ny pt_27 d27_6 rfl rfl rfl
theorem d27_7 : decode cX3_hasRoom 7 = .ok (.sipush 740, 3) := by decide +kernel
theorem z27_7 {st : List Value} {w : pm_H} {pl : pm_L} : pm_ev 27 7 pl st w = pm_ev 27 10 pl (.int 740 :: st) w := pm_ny pt_27 d27_7 rfl rfl rfl
theorem d27_10 : decode cX3_hasRoom 10 = .ok (.if_icmp .gt 7, 3) := by decide +kernel
theorem z27_10 {st : List Value} {w : pm_H} {pl : pm_L} {x0 x1 : Int32} : pm_ev 27 10 pl (.int x1 :: .int x0 :: st) w = if x1 < x0 then pm_ev 27 17 pl st w else pm_ev 27 13 pl st w := pm_nif pt_27 d27_10 rfl rfl rfl
theorem d27_13 : decode cX3_hasRoom 13 = .ok (.iconst 1, 1) := by decide +kernel
theorem z27_13 {st : List Value} {w : pm_H} {pl : pm_L} : pm_ev 27 13 pl st w = pm_ev 27 14 pl (.int 1 :: st) w := pm_ny pt_27 d27_13 rfl rfl rfl
theorem d27_14 : decode cX3_hasRoom 14 = .ok (.goto 4, 3) := by decide +kernel
theorem z27_14 {st : List Value} {w : pm_H} {pl : pm_L} : pm_ev 27 14 pl st w = pm_ev 27 18 pl st w := pm_ny pt_27 d27_14 rfl rfl rfl
theorem d27_17 : decode cX3_hasRoom 17 = .ok (.iconst 0, 1) := by decide +kernel
theorem z27_17 {st : List Value} {w : pm_H} {pl : pm_L} : pm_ev 27 17 pl st w = pm_ev 27 18 pl (.int 0 :: st) w := pm_ny pt_27 d27_17 rfl rfl rfl
theorem d27_18 : decode cX3_hasRoom 18 = .ok (.ireturn, 1) := by decide +kernel
theorem z27_18 {w : pm_H} {pl : pm_L} {x0 : Int32} : pm_ev 27 18 pl [.int x0] w = pm_zr x0 w := pm_nz pt_27 d27_18
theorem d28_0 : decode cX3_put 0 = .ok (.bipush 24, 2) := by decide +kernel
theorem z28_0 {st : List Value} {w : pm_H} {pl : pm_L} : pm_ev 28 0 pl st w = pm_ev 28 2 pl (.int 24 :: st) w := pm_ny pt_28 d28_0 rfl rfl rfl
theorem d28_2 : decode cX3_put 2 = .ok (.istore_n 2, 1) := by decide +kernel
theorem z28_2 {st : List Value} {w : pm_H} {b0 b2 : Option Value} {x0 : Int32} {x9 : Int32} : pm_ev 28 2 [b0, some (.int x9), b2] (.int x0 :: st) w = pm_ev 28 3 [b0, some (.int x9), some (.int x0)] st w := pm_ny pt_28 d28_2 rfl rfl rfl
theorem d28_3 : decode cX3_put 3 = .ok (.iload_n 2, 1) := by decide +kernel
theorem z28_3 {st : List Value} {w : pm_H} {b0 b1 : Option Value} {x0 : Int32} : pm_ev 28 3 [b0, b1, some (.int x0)] st w = pm_ev 28 4 [b0, b1, some (.int x0)] (.int x0 :: st) w := pm_ny pt_28 d28_3 rfl rfl rfl
theorem d28_4 : decode cX3_put 4 = .ok (.ifCond .lt 42, 3) := by decide +kernel
theorem z28_4 {st : List Value} {w : pm_H} {pl : pm_L} {x0 : Int32} : pm_ev 28 4 pl (.int x0 :: st) w = if x0 < 0 then pm_ev 28 46 pl st w else pm_ev 28 7 pl st w := pm_nif pt_28 d28_4 rfl rfl rfl
theorem d28_7 : decode cX3_put 7 = .ok (.aload_n 0, 1) := by decide +kernel
theorem z28_7 {st : List Value} {w : pm_H} {b1 b2 : Option Value} {x0 : Nat} : pm_ev 28 7 [some (.ref x0), b1, b2] st w = pm_ev 28 8 [some (.ref x0), b1, b2] (.ref x0 :: st) w := pm_ny pt_28 d28_7 rfl rfl rfl
theorem d28_8 : decode cX3_put 8 = .ok (.getfield 13, 3) := by decide +kernel
theorem z28_8 {st : List Value} {w : pm_H} {pl : pm_L} {x0 : Nat} : pm_ev 28 8 pl (.ref x0 :: st) w = pm_kv 28 11 pl st w (pm_gf (w x0) 3 1) := pm_ng pt_28 pt_F_3_13 d28_8
theorem d28_11 : decode cX3_put 11 = .ok (.sipush 740, 3) := by decide +kernel
theorem z28_11 {st : List Value} {w : pm_H} {pl : pm_L} : pm_ev 28 11 pl st w = pm_ev 28 14 pl (.int 740 :: st) w := pm_ny pt_28 d28_11 rfl rfl rfl
theorem d28_14 : decode cX3_put 14 = .ok (.if_icmp .ge 32, 3) := by decide +kernel
theorem z28_14 {st : List Value} {w : pm_H} {pl : pm_L} {x0 x1 : Int32} : pm_ev 28 14 pl (.int x1 :: .int x0 :: st) w = if x0 < x1 then pm_ev 28 17 pl st w else pm_ev 28 46 pl st w := pm_nin (c := x1 ≤ x0) pt_28 d28_14 rfl rfl rfl pm_ge
theorem d28_17 : decode cX3_put 17 = .ok (.aload_n 0, 1) := by decide +kernel
theorem z28_17 {st : List Value} {w : pm_H} {b1 b2 : Option Value} {x0 : Nat} : pm_ev 28 17 [some (.ref x0), b1, b2] st w = pm_ev 28 18 [some (.ref x0), b1, b2] (.ref x0 :: st) w := pm_ny pt_28 d28_17 rfl rfl rfl
theorem d28_18 : decode cX3_put 18 = .ok (.getfield 9, 3) := by decide +kernel
theorem z28_18 {st : List Value} {w : pm_H} {pl : pm_L} {x0 : Nat} : pm_ev 28 18 pl (.ref x0 :: st) w = pm_kv 28 21 pl st w (pm_gf (w x0) 3 0) := pm_ng pt_28 pt_F_3_9 d28_18
theorem d28_21 : decode cX3_put 21 = .ok (.aload_n 0, 1) := by decide +kernel
theorem z28_21 {st : List Value} {w : pm_H} {b1 b2 : Option Value} {x0 : Nat} : pm_ev 28 21 [some (.ref x0), b1, b2] st w = pm_ev 28 22 [some (.ref x0), b1, b2] (.ref x0 :: st) w := pm_ny pt_28 d28_21 rfl rfl rfl
theorem d28_22 : decode cX3_put 22 = .ok (.getfield 13, 3) := by decide +kernel
theorem z28_22 {st : List Value} {w : pm_H} {pl : pm_L} {x0 : Nat} : pm_ev 28 22 pl (.ref x0 :: st) w = pm_kv 28 25 pl st w (pm_gf (w x0) 3 1) := pm_ng pt_28 pt_F_3_13 d28_22
theorem d28_25 : decode cX3_put 25 = .ok (.iload_n 1, 1) := by decide +kernel
theorem z28_25 {st : List Value} {w : pm_H} {b0 b2 : Option Value} {x0 : Int32} : pm_ev 28 25 [b0, some (.int x0), b2] st w = pm_ev 28 26 [b0, some (.int x0), b2] (.int x0 :: st) w := pm_ny pt_28 d28_25 rfl rfl rfl
theorem d28_26 : decode cX3_put 26 = .ok (.iload_n 2, 1) := by decide +kernel
theorem z28_26 {st : List Value} {w : pm_H} {b0 b1 : Option Value} {x0 : Int32} : pm_ev 28 26 [b0, b1, some (.int x0)] st w = pm_ev 28 27 [b0, b1, some (.int x0)] (.int x0 :: st) w := pm_ny pt_28 d28_26 rfl rfl rfl
theorem d28_27 : decode cX3_put 27 = .ok (.ishr, 1) := by decide +kernel
theorem z28_27 {st : List Value} {w : pm_H} {pl : pm_L} {x0 x1 : Int32} : pm_ev 28 27 pl (.int x1 :: .int x0 :: st) w = pm_ev 28 28 pl (.int (x0 >>> (x1 &&& 31)) :: st) w := pm_ny pt_28 d28_27 rfl rfl rfl
theorem d28_28 : decode cX3_put 28 = .ok (.i2b, 1) := by decide +kernel
theorem z28_28 {st : List Value} {w : pm_H} {pl : pm_L} {x0 : Int32} : pm_ev 28 28 pl (.int x0 :: st) w = pm_ev 28 29 pl (.int x0.toInt8.toInt32 :: st) w := pm_ny pt_28 d28_28 rfl rfl rfl
theorem d28_29 : decode cX3_put 29 = .ok (.bastore, 1) := by decide +kernel
theorem z28_29 {st : List Value} {w : pm_H} {pl : pm_L} {x0 : Nat} {x1 : Int32} {x2 : Int32} : pm_ev 28 29 pl (.int x2 :: .int x1 :: .ref x0 :: st) w = pm_kw 28 30 pl st (pm_bs w x0 (w x0) x1 x2) := pm_nbs pt_28 d28_29
theorem d28_30 : decode cX3_put 30 = .ok (.aload_n 0, 1) := by decide +kernel
theorem z28_30 {st : List Value} {w : pm_H} {b1 b2 : Option Value} {x0 : Nat} : pm_ev 28 30 [some (.ref x0), b1, b2] st w = pm_ev 28 31 [some (.ref x0), b1, b2] (.ref x0 :: st) w := pm_ny pt_28 d28_30 rfl rfl rfl
theorem d28_31 : decode cX3_put 31 = .ok (.dup, 1) := by decide +kernel
theorem z28_31 {st : List Value} {w : pm_H} {pl : pm_L} {x0 : Nat} : pm_ev 28 31 pl (.ref x0 :: st) w = pm_ev 28 32 pl (.ref x0 :: .ref x0 :: st) w := pm_ny pt_28 d28_31 rfl rfl rfl
theorem d28_32 : decode cX3_put 32 = .ok (.getfield 13, 3) := by decide +kernel
theorem z28_32 {st : List Value} {w : pm_H} {pl : pm_L} {x0 : Nat} : pm_ev 28 32 pl (.ref x0 :: st) w = pm_kv 28 35 pl st w (pm_gf (w x0) 3 1) := pm_ng pt_28 pt_F_3_13 d28_32
theorem d28_35 : decode cX3_put 35 = .ok (.iconst 1, 1) := by decide +kernel
theorem z28_35 {st : List Value} {w : pm_H} {pl : pm_L} : pm_ev 28 35 pl st w = pm_ev 28 36 pl (.int 1 :: st) w := pm_ny pt_28 d28_35 rfl rfl rfl
theorem d28_36 : decode cX3_put 36 = .ok (.iadd, 1) := by decide +kernel
theorem z28_36 {st : List Value} {w : pm_H} {pl : pm_L} {x0 x1 : Int32} : pm_ev 28 36 pl (.int x1 :: .int x0 :: st) w = pm_ev 28 37 pl (.int (x0 + x1) :: st) w := pm_ny pt_28 d28_36 rfl rfl rfl
theorem d28_37 : decode cX3_put 37 = .ok (.putfield 13, 3) := by decide +kernel
theorem z28_37 {st : List Value} {w : pm_H} {pl : pm_L} {x0 : Nat} {x1 : Int32} : pm_ev 28 37 pl (.int x1 :: .ref x0 :: st) w = pm_kw 28 40 pl st (pm_pf w x0 (w x0) 3 1 0 (.int x1)) := pm_np pt_28 pt_F_3_13 d28_37
theorem d28_40 : decode cX3_put 40 = .ok (.iinc 2 (-8), 3) := by decide +kernel
theorem z28_40 {st : List Value} {w : pm_H} {b0 : Option Value} {x0 : Int32} {x9 : Int32} : pm_ev 28 40 [b0, some (.int x9), some (.int x0)] st w = pm_ev 28 43 [b0, some (.int x9), some (.int (x0 + (-8)))] st w := pm_ny pt_28 d28_40 rfl rfl rfl
theorem d28_43 : decode cX3_put 43 = .ok (.goto (-40), 3) := by decide +kernel
theorem z28_43 {st : List Value} {w : pm_H} {pl : pm_L} : pm_ev 28 43 pl st w = pm_ev 28 3 pl st w := pm_ny pt_28 d28_43 rfl rfl rfl
theorem d28_46 : decode cX3_put 46 = .ok (.return_, 1) := by decide +kernel
theorem z28_46 {w : pm_H} {pl : pm_L} : pm_ev 28 46 pl [] w = some (none, w) := pm_nr pt_28 d28_46 rfl
theorem d165_0 : decode prog_13_method_69_code 0 = .ok (.iload_n 0, 1) := by decide +kernel
theorem z165_0 {st : List Value} {w : pm_H} {b1 : Option Value} {x0 : Int32} : pm_ev 165 0 [some (.int x0), b1] st w = pm_ev 165 1 [some (.int x0), b1] (.int x0 :: st) w := pm_ny pt_165 d165_0 rfl rfl rfl
theorem d165_1 : decode prog_13_method_69_code 1 = .ok (.iload_n 1, 1) := by decide +kernel
theorem z165_1 {st : List Value} {w : pm_H} {b0 : Option Value} {x0 : Int32} : pm_ev 165 1 [b0, some (.int x0)] st w = pm_ev 165 2 [b0, some (.int x0)] (.int x0 :: st) w := pm_ny pt_165 d165_1 rfl rfl rfl
theorem d165_2 : decode prog_13_method_69_code 2 = .ok (.if_icmp .gt 7, 3) := by decide +kernel
theorem z165_2 {st : List Value} {w : pm_H} {pl : pm_L} {x0 x1 : Int32} : pm_ev 165 2 pl (.int x1 :: .int x0 :: st) w = if x1 < x0 then pm_ev 165 9 pl st w else pm_ev 165 5 pl st w := pm_nif pt_165 d165_2 rfl rfl rfl
theorem d165_5 : decode prog_13_method_69_code 5 = .ok (.iload_n 0, 1) := by decide +kernel
theorem z165_5 {st : List Value} {w : pm_H} {b1 : Option Value} {x0 : Int32} : pm_ev 165 5 [some (.int x0), b1] st w = pm_ev 165 6 [some (.int x0), b1] (.int x0 :: st) w := pm_ny pt_165 d165_5 rfl rfl rfl
theorem d165_6 : decode prog_13_method_69_code 6 = .ok (.goto 4, 3) := by decide +kernel
theorem z165_6 {st : List Value} {w : pm_H} {pl : pm_L} : pm_ev 165 6 pl st w = pm_ev 165 10 pl st w := pm_ny pt_165 d165_6 rfl rfl rfl
theorem d165_9 : decode prog_13_method_69_code 9 = .ok (.iload_n 1, 1) := by decide +kernel
theorem z165_9 {st : List Value} {w : pm_H} {b0 : Option Value} {x0 : Int32} : pm_ev 165 9 [b0, some (.int x0)] st w = pm_ev 165 10 [b0, some (.int x0)] (.int x0 :: st) w := pm_ny pt_165 d165_9 rfl rfl rfl
theorem d165_10 : decode prog_13_method_69_code 10 = .ok (.ireturn, 1) := by decide +kernel
theorem z165_10 {w : pm_H} {pl : pm_L} {x0 : Int32} : pm_ev 165 10 pl [.int x0] w = some (some (.int x0), w) := pm_nr pt_165 d165_10 rfl
theorem d166_0 : decode prog_13_method_65_code 0 = .ok (.iload_n 0, 1) := by decide +kernel
theorem z166_0 {st : List Value} {w : pm_H} {b1 : Option Value} {x0 : Int32} : pm_ev 166 0 [some (.int x0), b1] st w = pm_ev 166 1 [some (.int x0), b1] (.int x0 :: st) w := pm_ny pt_166 d166_0 rfl rfl rfl
theorem d166_1 : decode prog_13_method_65_code 1 = .ok (.iload_n 1, 1) := by decide +kernel
theorem z166_1 {st : List Value} {w : pm_H} {b0 : Option Value} {x0 : Int32} : pm_ev 166 1 [b0, some (.int x0)] st w = pm_ev 166 2 [b0, some (.int x0)] (.int x0 :: st) w := pm_ny pt_166 d166_1 rfl rfl rfl
theorem d166_2 : decode prog_13_method_65_code 2 = .ok (.if_icmp .lt 7, 3) := by decide +kernel
theorem z166_2 {st : List Value} {w : pm_H} {pl : pm_L} {x0 x1 : Int32} : pm_ev 166 2 pl (.int x1 :: .int x0 :: st) w = if x0 < x1 then pm_ev 166 9 pl st w else pm_ev 166 5 pl st w := pm_nif pt_166 d166_2 rfl rfl rfl
theorem d166_5 : decode prog_13_method_65_code 5 = .ok (.iload_n 0, 1) := by decide +kernel
theorem z166_5 {st : List Value} {w : pm_H} {b1 : Option Value} {x0 : Int32} : pm_ev 166 5 [some (.int x0), b1] st w = pm_ev 166 6 [some (.int x0), b1] (.int x0 :: st) w := pm_ny pt_166 d166_5 rfl rfl rfl
theorem d166_6 : decode prog_13_method_65_code 6 = .ok (.goto 4, 3) := by decide +kernel
theorem z166_6 {st : List Value} {w : pm_H} {pl : pm_L} : pm_ev 166 6 pl st w = pm_ev 166 10 pl st w := pm_ny pt_166 d166_6 rfl rfl rfl
theorem d166_9 : decode prog_13_method_65_code 9 = .ok (.iload_n 1, 1) := by decide +kernel
theorem z166_9 {st : List Value} {w : pm_H} {b0 : Option Value} {x0 : Int32} : pm_ev 166 9 [b0, some (.int x0)] st w = pm_ev 166 10 [b0, some (.int x0)] (.int x0 :: st) w := pm_ny pt_166 d166_9 rfl rfl rfl
theorem d166_10 : decode prog_13_method_65_code 10 = .ok (.ireturn, 1) := by decide +kernel
theorem z166_10 {w : pm_H} {pl : pm_L} {x0 : Int32} : pm_ev 166 10 pl [.int x0] w = some (some (.int x0), w) := pm_nr pt_166 d166_10 rfl
theorem d167_0 : decode prog_13_method_49_code 0 = .ok (.lload_n 0, 1) := by decide +kernel
theorem z167_0 {st : List Value} {w : pm_H} {b1 b2 b3 b4 b5 : Option Value} {x0 : Int64} : pm_ev 167 0 [some (.long x0), b1, b2, b3, b4, b5] st w = pm_ev 167 1 [some (.long x0), b1, b2, b3, b4, b5] (.long x0 :: st) w := pm_ny pt_167 d167_0 rfl rfl rfl
theorem d167_1 : decode prog_13_method_49_code 1 = .ok (.lload_n 2, 1) := by decide +kernel
theorem z167_1 {st : List Value} {w : pm_H} {b0 b1 b3 b4 b5 : Option Value} {x0 : Int64} : pm_ev 167 1 [b0, b1, some (.long x0), b3, b4, b5] st w = pm_ev 167 2 [b0, b1, some (.long x0), b3, b4, b5] (.long x0 :: st) w := pm_ny pt_167 d167_1 rfl rfl rfl
theorem d167_2 : decode prog_13_method_49_code 2 = .ok (.ldiv, 1) := by decide +kernel
theorem z167_2 {st : List Value} {w : pm_H} {pl : pm_L} {x0 x1 : Int64} : pm_ev 167 2 pl (.long x1 :: .long x0 :: st) w = pm_kv 167 3 pl st w (pm_dv x0 x1) := pm_nd pt_167 d167_2
theorem d167_3 : decode prog_13_method_49_code 3 = .ok (.lstore 4, 2) := by decide +kernel
theorem z167_3 {st : List Value} {w : pm_H} {b0 b1 b2 b4 b5 : Option Value} {x0 : Int64} : pm_ev 167 3 [b0, b1, b2, none, b4, b5] (.long x0 :: st) w = pm_ev 167 5 [b0, b1, b2, none, some (.long x0), none] st w := pm_ny pt_167 d167_3 rfl rfl rfl
theorem d167_5 : decode prog_13_method_49_code 5 = .ok (.lload_n 0, 1) := by decide +kernel
theorem z167_5 {st : List Value} {w : pm_H} {b1 b2 b3 b4 b5 : Option Value} {x0 : Int64} : pm_ev 167 5 [some (.long x0), b1, b2, b3, b4, b5] st w = pm_ev 167 6 [some (.long x0), b1, b2, b3, b4, b5] (.long x0 :: st) w := pm_ny pt_167 d167_5 rfl rfl rfl
theorem d167_6 : decode prog_13_method_49_code 6 = .ok (.lload_n 2, 1) := by decide +kernel
theorem z167_6 {st : List Value} {w : pm_H} {b0 b1 b3 b4 b5 : Option Value} {x0 : Int64} : pm_ev 167 6 [b0, b1, some (.long x0), b3, b4, b5] st w = pm_ev 167 7 [b0, b1, some (.long x0), b3, b4, b5] (.long x0 :: st) w := pm_ny pt_167 d167_6 rfl rfl rfl
theorem d167_7 : decode prog_13_method_49_code 7 = .ok (.lxor, 1) := by decide +kernel
theorem z167_7 {st : List Value} {w : pm_H} {pl : pm_L} {x0 x1 : Int64} : pm_ev 167 7 pl (.long x1 :: .long x0 :: st) w = pm_ev 167 8 pl (.long (x0 ^^^ x1) :: st) w := pm_ny pt_167 d167_7 rfl rfl rfl
theorem d167_8 : decode prog_13_method_49_code 8 = .ok (.lconst 0, 1) := by decide +kernel
theorem z167_8 {st : List Value} {w : pm_H} {pl : pm_L} : pm_ev 167 8 pl st w = pm_ev 167 9 pl (.long 0 :: st) w := pm_ny pt_167 d167_8 rfl rfl rfl
theorem d167_9 : decode prog_13_method_49_code 9 = .ok (.lcmp, 1) := by decide +kernel
theorem z167_9 {st : List Value} {w : pm_H} {pl : pm_L} {x0 x1 : Int64} : pm_ev 167 9 pl (.long x1 :: .long x0 :: st) w = pm_ev 167 10 pl (.int (lg_cmp x0 x1) :: st) w := pm_ny pt_167 d167_9 rfl rfl rfl
theorem d167_10 : decode prog_13_method_49_code 10 = .ok (.ifCond .ge 17, 3) := by decide +kernel
theorem z167_10 {st : List Value} {w : pm_H} {pl : pm_L} {x0 : Int32} : pm_ev 167 10 pl (.int x0 :: st) w = if x0 < 0 then pm_ev 167 13 pl st w else pm_ev 167 27 pl st w := pm_nin (c := 0 ≤ x0) pt_167 d167_10 rfl rfl rfl pm_ge
theorem d167_13 : decode prog_13_method_49_code 13 = .ok (.lload 4, 2) := by decide +kernel
theorem z167_13 {st : List Value} {w : pm_H} {b0 b1 b2 b3 b5 : Option Value} {x0 : Int64} : pm_ev 167 13 [b0, b1, b2, b3, some (.long x0), b5] st w = pm_ev 167 15 [b0, b1, b2, b3, some (.long x0), b5] (.long x0 :: st) w := pm_ny pt_167 d167_13 rfl rfl rfl
theorem d167_15 : decode prog_13_method_49_code 15 = .ok (.lload_n 2, 1) := by decide +kernel
theorem z167_15 {st : List Value} {w : pm_H} {b0 b1 b3 b4 b5 : Option Value} {x0 : Int64} : pm_ev 167 15 [b0, b1, some (.long x0), b3, b4, b5] st w = pm_ev 167 16 [b0, b1, some (.long x0), b3, b4, b5] (.long x0 :: st) w := pm_ny pt_167 d167_15 rfl rfl rfl
theorem d167_16 : decode prog_13_method_49_code 16 = .ok (.lmul, 1) := by decide +kernel
theorem z167_16 {st : List Value} {w : pm_H} {pl : pm_L} {x0 x1 : Int64} : pm_ev 167 16 pl (.long x1 :: .long x0 :: st) w = pm_ev 167 17 pl (.long (x0 * x1) :: st) w := pm_ny pt_167 d167_16 rfl rfl rfl
theorem d167_17 : decode prog_13_method_49_code 17 = .ok (.lload_n 0, 1) := by decide +kernel
theorem z167_17 {st : List Value} {w : pm_H} {b1 b2 b3 b4 b5 : Option Value} {x0 : Int64} : pm_ev 167 17 [some (.long x0), b1, b2, b3, b4, b5] st w = pm_ev 167 18 [some (.long x0), b1, b2, b3, b4, b5] (.long x0 :: st) w := pm_ny pt_167 d167_17 rfl rfl rfl
theorem d167_18 : decode prog_13_method_49_code 18 = .ok (.lcmp, 1) := by decide +kernel
theorem z167_18 {st : List Value} {w : pm_H} {pl : pm_L} {x0 x1 : Int64} : pm_ev 167 18 pl (.long x1 :: .long x0 :: st) w = pm_ev 167 19 pl (.int (lg_cmp x0 x1) :: st) w := pm_ny pt_167 d167_18 rfl rfl rfl
theorem d167_19 : decode prog_13_method_49_code 19 = .ok (.ifCond .eq 8, 3) := by decide +kernel
theorem z167_19 {st : List Value} {w : pm_H} {pl : pm_L} {x0 : Int32} : pm_ev 167 19 pl (.int x0 :: st) w = if x0 = 0 then pm_ev 167 27 pl st w else pm_ev 167 22 pl st w := pm_nif pt_167 d167_19 rfl rfl rfl
theorem d167_22 : decode prog_13_method_49_code 22 = .ok (.lload 4, 2) := by decide +kernel
theorem z167_22 {st : List Value} {w : pm_H} {b0 b1 b2 b3 b5 : Option Value} {x0 : Int64} : pm_ev 167 22 [b0, b1, b2, b3, some (.long x0), b5] st w = pm_ev 167 24 [b0, b1, b2, b3, some (.long x0), b5] (.long x0 :: st) w := pm_ny pt_167 d167_22 rfl rfl rfl
theorem d167_24 : decode prog_13_method_49_code 24 = .ok (.lconst 1, 1) := by decide +kernel
theorem z167_24 {st : List Value} {w : pm_H} {pl : pm_L} : pm_ev 167 24 pl st w = pm_ev 167 25 pl (.long 1 :: st) w := pm_ny pt_167 d167_24 rfl rfl rfl
theorem d167_25 : decode prog_13_method_49_code 25 = .ok (.lsub, 1) := by decide +kernel
theorem z167_25 {st : List Value} {w : pm_H} {pl : pm_L} {x0 x1 : Int64} : pm_ev 167 25 pl (.long x1 :: .long x0 :: st) w = pm_ev 167 26 pl (.long (x0 - x1) :: st) w := pm_ny pt_167 d167_25 rfl rfl rfl
theorem d167_26 : decode prog_13_method_49_code 26 = .ok (.lreturn, 1) := by decide +kernel
theorem z167_26 {w : pm_H} {pl : pm_L} {x0 : Int64} : pm_ev 167 26 pl [.long x0] w = some (some (.long x0), w) := pm_nr pt_167 d167_26 rfl
theorem d167_27 : decode prog_13_method_49_code 27 = .ok (.lload 4, 2) := by decide +kernel
theorem z167_27 {st : List Value} {w : pm_H} {b0 b1 b2 b3 b5 : Option Value} {x0 : Int64} : pm_ev 167 27 [b0, b1, b2, b3, some (.long x0), b5] st w = pm_ev 167 29 [b0, b1, b2, b3, some (.long x0), b5] (.long x0 :: st) w := pm_ny pt_167 d167_27 rfl rfl rfl
theorem d167_29 : decode prog_13_method_49_code 29 = .ok (.lreturn, 1) := by decide +kernel
theorem z167_29 {w : pm_H} {pl : pm_L} {x0 : Int64} : pm_ev 167 29 pl [.long x0] w = some (some (.long x0), w) := pm_nr pt_167 d167_29 rfl
