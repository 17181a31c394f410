theorem d114_0 : decode cX6_mostOf 0 = .ok (.aload_n 0, 1) := by decide +kernel
theorem z114_0 {st : List Value} {w : pm_H} {b1 b2 : Option Value} {x0 : Nat} : pm_ev 114 0 [some (.ref x0), b1, b2] st w = pm_ev 114 1 [some (.ref x0), b1, b2] (.ref x0 :: st) w := pm_ny pt_114 d114_0 rfl rfl rfl
theorem d114_1 : decode cX6_mostOf 1 = .ok (.sipush 360, 3) := by decide +kernel
theorem z114_1 {st : List Value} {w : pm_H} {pl : pm_L} : pm_ev 114 1 pl st w = pm_ev 114 4 pl (.int 360 :: st) w := pm_ny pt_114 d114_1 rfl rfl rfl
theorem d114_4 : decode cX6_mostOf 4 = .ok (.invokestatic 137, 3) := by decide +kernel
theorem z114_4 {w : pm_H} {b0 b1 b2 : Option Value} {x0 : Int32} {x1 : Nat} : pm_ev 114 4 [b0, b1, b2] [.int x0, .ref x1] w = pm_k 114 7 [b0, b1, b2] [] (pm_call 115 [.ref x1, .int x0] w) := pm_ns pt_114 pt_115 pt_M_6_137 (Or.inl rfl) d114_4 ⟨rfl, rfl⟩ ⟨⟨rfl, Nat.le_of_ble_eq_true rfl, Nat.le_of_ble_eq_true rfl, Nat.le_of_ble_eq_true rfl, Nat.le_of_ble_eq_true rfl⟩, rfl⟩
theorem d114_7 : decode cX6_mostOf 7 = .ok (.iconst 1, 1) := by decide +kernel
theorem z114_7 {st : List Value} {w : pm_H} {pl : pm_L} : pm_ev 114 7 pl st w = pm_ev 114 8 pl (.int 1 :: st) w := pm_ny pt_114 d114_7 rfl rfl rfl
theorem d114_8 : decode cX6_mostOf 8 = .ok (.isub, 1) := by decide +kernel
theorem z114_8 {st : List Value} {w : pm_H} {pl : pm_L} {x0 x1 : Int32} : pm_ev 114 8 pl (.int x1 :: .int x0 :: st) w = pm_ev 114 9 pl (.int (x0 - x1) :: st) w := pm_ny pt_114 d114_8 rfl rfl rfl
theorem d114_9 : decode cX6_mostOf 9 = .ok (.istore_n 2, 1) := by decide +kernel
theorem z114_9 {st : List Value} {w : pm_H} {b0 b2 : Option Value} {x0 : Int32} {x9 : Int32} : pm_ev 114 9 [b0, some (.int x9), b2] (.int x0 :: st) w = pm_ev 114 10 [b0, some (.int x9), some (.int x0)] st w := pm_ny pt_114 d114_9 rfl rfl rfl
theorem d114_10 : decode cX6_mostOf 10 = .ok (.iload_n 1, 1) := by decide +kernel
theorem z114_10 {st : List Value} {w : pm_H} {b0 b2 : Option Value} {x0 : Int32} : pm_ev 114 10 [b0, some (.int x0), b2] st w = pm_ev 114 11 [b0, some (.int x0), b2] (.int x0 :: st) w := pm_ny pt_114 d114_10 rfl rfl rfl
theorem d114_11 : decode cX6_mostOf 11 = .ok (.iconst 2, 1) := by decide +kernel
theorem z114_11 {st : List Value} {w : pm_H} {pl : pm_L} : pm_ev 114 11 pl st w = pm_ev 114 12 pl (.int 2 :: st) w := pm_ny pt_114 d114_11 rfl rfl rfl
theorem d114_12 : decode cX6_mostOf 12 = .ok (.if_icmp .ne 8, 3) := by decide +kernel
theorem z114_12 {st : List Value} {w : pm_H} {pl : pm_L} {x0 x1 : Int32} : pm_ev 114 12 pl (.int x1 :: .int x0 :: st) w = if x0 = x1 then pm_ev 114 15 pl st w else pm_ev 114 20 pl st w := pm_nin (c := ¬ x0 = x1) pt_114 d114_12 rfl rfl rfl Iff.rfl
theorem d114_15 : decode cX6_mostOf 15 = .ok (.bipush 9, 2) := by decide +kernel
theorem z114_15 {st : List Value} {w : pm_H} {pl : pm_L} : pm_ev 114 15 pl st w = pm_ev 114 17 pl (.int 9 :: st) w := pm_ny pt_114 d114_15 rfl rfl rfl
theorem d114_17 : decode cX6_mostOf 17 = .ok (.goto 20, 3) := by decide +kernel
theorem z114_17 {st : List Value} {w : pm_H} {pl : pm_L} : pm_ev 114 17 pl st w = pm_ev 114 37 pl st w := pm_ny pt_114 d114_17 rfl rfl rfl
theorem d114_20 : decode cX6_mostOf 20 = .ok (.iload_n 1, 1) := by decide +kernel
theorem z114_20 {st : List Value} {w : pm_H} {b0 b2 : Option Value} {x0 : Int32} : pm_ev 114 20 [b0, some (.int x0), b2] st w = pm_ev 114 21 [b0, some (.int x0), b2] (.int x0 :: st) w := pm_ny pt_114 d114_20 rfl rfl rfl
theorem d114_21 : decode cX6_mostOf 21 = .ok (.iconst 1, 1) := by decide +kernel
theorem z114_21 {st : List Value} {w : pm_H} {pl : pm_L} : pm_ev 114 21 pl st w = pm_ev 114 22 pl (.int 1 :: st) w := pm_ny pt_114 d114_21 rfl rfl rfl
theorem d114_22 : decode cX6_mostOf 22 = .ok (.if_icmp .ne 13, 3) := by decide +kernel
theorem z114_22 {st : List Value} {w : pm_H} {pl : pm_L} {x0 x1 : Int32} : pm_ev 114 22 pl (.int x1 :: .int x0 :: st) w = if x0 = x1 then pm_ev 114 25 pl st w else pm_ev 114 35 pl st w := pm_nin (c := ¬ x0 = x1) pt_114 d114_22 rfl rfl rfl Iff.rfl
theorem d114_25 : decode cX6_mostOf 25 = .ok (.iload_n 2, 1) := by decide +kernel
theorem z114_25 {st : List Value} {w : pm_H} {b0 b1 : Option Value} {x0 : Int32} : pm_ev 114 25 [b0, b1, some (.int x0)] st w = pm_ev 114 26 [b0, b1, some (.int x0)] (.int x0 :: st) w := pm_ny pt_114 d114_25 rfl rfl rfl
theorem d114_26 : decode cX6_mostOf 26 = .ok (.ldc 117, 2) := by decide +kernel
theorem z114_26 {st : List Value} {w : pm_H} {pl : pm_L} : pm_ev 114 26 pl st w = pm_ev 114 28 pl (.int (99999) :: st) w := pm_nk pt_114 pt_K_6_117 (by decide) d114_26
theorem d114_28 : decode cX6_mostOf 28 = .ok (.if_icmp .ge 7, 3) := by decide +kernel
theorem z114_28 {st : List Value} {w : pm_H} {pl : pm_L} {x0 x1 : Int32} : pm_ev 114 28 pl (.int x1 :: .int x0 :: st) w = if x0 < x1 then pm_ev 114 31 pl st w else pm_ev 114 35 pl st w := pm_nin (c := x1 ≤ x0) pt_114 d114_28 rfl rfl rfl pm_ge
theorem d114_31 : decode cX6_mostOf 31 = .ok (.iload_n 2, 1) := by decide +kernel
theorem z114_31 {st : List Value} {w : pm_H} {b0 b1 : Option Value} {x0 : Int32} : pm_ev 114 31 [b0, b1, some (.int x0)] st w = pm_ev 114 32 [b0, b1, some (.int x0)] (.int x0 :: st) w := pm_ny pt_114 d114_31 rfl rfl rfl
theorem d114_32 : decode cX6_mostOf 32 = .ok (.goto 5, 3) := by decide +kernel
theorem z114_32 {st : List Value} {w : pm_H} {pl : pm_L} : pm_ev 114 32 pl st w = pm_ev 114 37 pl st w := pm_ny pt_114 d114_32 rfl rfl rfl
theorem d114_35 : decode cX6_mostOf 35 = .ok (.ldc 117, 2) := by decide +kernel
theorem z114_35 {st : List Value} {w : pm_H} {pl : pm_L} : pm_ev 114 35 pl st w = pm_ev 114 37 pl (.int (99999) :: st) w := pm_nk pt_114 pt_K_6_117 (by decide) d114_35
theorem d114_37 : decode cX6_mostOf 37 = .ok (.ireturn, 1) := by decide +kernel
theorem z114_37 {w : pm_H} {pl : pm_L} {x0 : Int32} : pm_ev 114 37 pl [.int x0] w = some (some (.int x0), w) := pm_nr pt_114 d114_37 rfl
theorem d115_0 : decode cX6_sharesOf 0 = .ok (.aload_n 0, 1) := by decide +kernel
theorem z115_0 {st : List Value} {w : pm_H} {b1 b2 b3 b4 b5 : Option Value} {x0 : Nat} : pm_ev 115 0 [some (.ref x0), b1, b2, b3, b4, b5] st w = pm_ev 115 1 [some (.ref x0), b1, b2, b3, b4, b5] (.ref x0 :: st) w := pm_ny pt_115 d115_0 rfl rfl rfl
theorem d115_1 : decode cX6_sharesOf 1 = .ok (.iconst 0, 1) := by decide +kernel
theorem z115_1 {st : List Value} {w : pm_H} {pl : pm_L} : pm_ev 115 1 pl st w = pm_ev 115 2 pl (.int 0 :: st) w := pm_ny pt_115 d115_1 rfl rfl rfl
theorem d115_2 : decode cX6_sharesOf 2 = .ok (.iaload, 1) := by decide +kernel
theorem z115_2 {st : List Value} {w : pm_H} {pl : pm_L} {x0 : Nat} {x1 : Int32} : pm_ev 115 2 pl (.int x1 :: .ref x0 :: st) w = pm_kv 115 3 pl st w (pm_ia (w x0) 0 x1) := pm_nia pt_115 d115_2
theorem d115_3 : decode cX6_sharesOf 3 = .ok (.istore_n 2, 1) := by decide +kernel
theorem z115_3 {st : List Value} {w : pm_H} {b0 b2 b3 b4 b5 : Option Value} {x0 : Int32} {x9 : Int32} : pm_ev 115 3 [b0, some (.int x9), b2, b3, b4, b5] (.int x0 :: st) w = pm_ev 115 4 [b0, some (.int x9), some (.int x0), b3, b4, b5] st w := pm_ny pt_115 d115_3 rfl rfl rfl
theorem d115_4 : decode cX6_sharesOf 4 = .ok (.iconst 0, 1) := by decide +kernel
theorem z115_4 {st : List Value} {w : pm_H} {pl : pm_L} : pm_ev 115 4 pl st w = pm_ev 115 5 pl (.int 0 :: st) w := pm_ny pt_115 d115_4 rfl rfl rfl
theorem d115_5 : decode cX6_sharesOf 5 = .ok (.istore_n 3, 1) := by decide +kernel
theorem z115_5 {st : List Value} {w : pm_H} {b0 b1 b3 b4 b5 : Option Value} {x0 : Int32} {x9 : Int32} : pm_ev 115 5 [b0, b1, some (.int x9), b3, b4, b5] (.int x0 :: st) w = pm_ev 115 6 [b0, b1, some (.int x9), some (.int x0), b4, b5] st w := pm_ny pt_115 d115_5 rfl rfl rfl
theorem d115_6 : decode cX6_sharesOf 6 = .ok (.iload_n 3, 1) := by decide +kernel
theorem z115_6 {st : List Value} {w : pm_H} {b0 b1 b2 b4 b5 : Option Value} {x0 : Int32} : pm_ev 115 6 [b0, b1, b2, some (.int x0), b4, b5] st w = pm_ev 115 7 [b0, b1, b2, some (.int x0), b4, b5] (.int x0 :: st) w := pm_ny pt_115 d115_6 rfl rfl rfl
theorem d115_7 : decode cX6_sharesOf 7 = .ok (.aload_n 0, 1) := by decide +kernel
theorem z115_7 {st : List Value} {w : pm_H} {b1 b2 b3 b4 b5 : Option Value} {x0 : Nat} : pm_ev 115 7 [some (.ref x0), b1, b2, b3, b4, b5] st w = pm_ev 115 8 [some (.ref x0), b1, b2, b3, b4, b5] (.ref x0 :: st) w := pm_ny pt_115 d115_7 rfl rfl rfl
theorem d115_8 : decode cX6_sharesOf 8 = .ok (.bipush 9, 2) := by decide +kernel
theorem z115_8 {st : List Value} {w : pm_H} {pl : pm_L} : pm_ev 115 8 pl st w = pm_ev 115 10 pl (.int 9 :: st) w := pm_ny pt_115 d115_8 rfl rfl rfl
theorem d115_10 : decode cX6_sharesOf 10 = .ok (.iaload, 1) := by decide +kernel
theorem z115_10 {st : List Value} {w : pm_H} {pl : pm_L} {x0 : Nat} {x1 : Int32} : pm_ev 115 10 pl (.int x1 :: .ref x0 :: st) w = pm_kv 115 11 pl st w (pm_ia (w x0) 0 x1) := pm_nia pt_115 d115_10
theorem d115_11 : decode cX6_sharesOf 11 = .ok (.if_icmp .ge 65, 3) := by decide +kernel
theorem z115_11 {st : List Value} {w : pm_H} {pl : pm_L} {x0 x1 : Int32} : pm_ev 115 11 pl (.int x1 :: .int x0 :: st) w = if x0 < x1 then pm_ev 115 14 pl st w else pm_ev 115 76 pl st w := pm_nin (c := x1 ≤ x0) pt_115 d115_11 rfl rfl rfl pm_ge
theorem d115_14 : decode cX6_sharesOf 14 = .ok (.aload_n 0, 1) := by decide +kernel
theorem z115_14 {st : List Value} {w : pm_H} {b1 b2 b3 b4 b5 : Option Value} {x0 : Nat} : pm_ev 115 14 [some (.ref x0), b1, b2, b3, b4, b5] st w = pm_ev 115 15 [some (.ref x0), b1, b2, b3, b4, b5] (.ref x0 :: st) w := pm_ny pt_115 d115_14 rfl rfl rfl
theorem d115_15 : decode cX6_sharesOf 15 = .ok (.iload_n 3, 1) := by decide +kernel
theorem z115_15 {st : List Value} {w : pm_H} {b0 b1 b2 b4 b5 : Option Value} {x0 : Int32} : pm_ev 115 15 [b0, b1, b2, some (.int x0), b4, b5] st w = pm_ev 115 16 [b0, b1, b2, some (.int x0), b4, b5] (.int x0 :: st) w := pm_ny pt_115 d115_15 rfl rfl rfl
theorem d115_16 : decode cX6_sharesOf 16 = .ok (.iconst 1, 1) := by decide +kernel
theorem z115_16 {st : List Value} {w : pm_H} {pl : pm_L} : pm_ev 115 16 pl st w = pm_ev 115 17 pl (.int 1 :: st) w := pm_ny pt_115 d115_16 rfl rfl rfl
theorem d115_17 : decode cX6_sharesOf 17 = .ok (.invokestatic 134, 3) := by decide +kernel
theorem z115_17 {w : pm_H} {b0 b1 b2 b3 b4 b5 : Option Value} {x0 : Int32} {x1 : Int32} {x2 : Nat} : pm_ev 115 17 [b0, b1, b2, b3, b4, b5] [.int x0, .int x1, .ref x2] w = pm_k 115 20 [b0, b1, b2, b3, b4, b5] [] (pm_call 112 [.ref x2, .int x1, .int x0] w) := pm_ns pt_115 pt_112 pt_M_6_134 (Or.inl rfl) d115_17 ⟨rfl, rfl⟩ ⟨⟨rfl, Nat.le_of_ble_eq_true rfl, Nat.le_of_ble_eq_true rfl, Nat.le_of_ble_eq_true rfl, Nat.le_of_ble_eq_true rfl⟩, rfl⟩
theorem d115_20 : decode cX6_sharesOf 20 = .ok (.iload_n 1, 1) := by decide +kernel
theorem z115_20 {st : List Value} {w : pm_H} {b0 b2 b3 b4 b5 : Option Value} {x0 : Int32} : pm_ev 115 20 [b0, some (.int x0), b2, b3, b4, b5] st w = pm_ev 115 21 [b0, some (.int x0), b2, b3, b4, b5] (.int x0 :: st) w := pm_ny pt_115 d115_20 rfl rfl rfl
theorem d115_21 : decode cX6_sharesOf 21 = .ok (.if_icmp .gt 55, 3) := by decide +kernel
theorem z115_21 {st : List Value} {w : pm_H} {pl : pm_L} {x0 x1 : Int32} : pm_ev 115 21 pl (.int x1 :: .int x0 :: st) w = if x1 < x0 then pm_ev 115 76 pl st w else pm_ev 115 24 pl st w := pm_nif pt_115 d115_21 rfl rfl rfl
theorem d115_24 : decode cX6_sharesOf 24 = .ok (.aload_n 0, 1) := by decide +kernel
theorem z115_24 {st : List Value} {w : pm_H} {b1 b2 b3 b4 b5 : Option Value} {x0 : Nat} : pm_ev 115 24 [some (.ref x0), b1, b2, b3, b4, b5] st w = pm_ev 115 25 [some (.ref x0), b1, b2, b3, b4, b5] (.ref x0 :: st) w := pm_ny pt_115 d115_24 rfl rfl rfl
theorem d115_25 : decode cX6_sharesOf 25 = .ok (.iload_n 3, 1) := by decide +kernel
theorem z115_25 {st : List Value} {w : pm_H} {b0 b1 b2 b4 b5 : Option Value} {x0 : Int32} : pm_ev 115 25 [b0, b1, b2, some (.int x0), b4, b5] st w = pm_ev 115 26 [b0, b1, b2, some (.int x0), b4, b5] (.int x0 :: st) w := pm_ny pt_115 d115_25 rfl rfl rfl
theorem d115_26 : decode cX6_sharesOf 26 = .ok (.iconst 2, 1) := by decide +kernel
theorem z115_26 {st : List Value} {w : pm_H} {pl : pm_L} : pm_ev 115 26 pl st w = pm_ev 115 27 pl (.int 2 :: st) w := pm_ny pt_115 d115_26 rfl rfl rfl
theorem d115_27 : decode cX6_sharesOf 27 = .ok (.invokestatic 134, 3) := by decide +kernel
theorem z115_27 {w : pm_H} {b0 b1 b2 b3 b4 b5 : Option Value} {x0 : Int32} {x1 : Int32} {x2 : Nat} : pm_ev 115 27 [b0, b1, b2, b3, b4, b5] [.int x0, .int x1, .ref x2] w = pm_k 115 30 [b0, b1, b2, b3, b4, b5] [] (pm_call 112 [.ref x2, .int x1, .int x0] w) := pm_ns pt_115 pt_112 pt_M_6_134 (Or.inl rfl) d115_27 ⟨rfl, rfl⟩ ⟨⟨rfl, Nat.le_of_ble_eq_true rfl, Nat.le_of_ble_eq_true rfl, Nat.le_of_ble_eq_true rfl, Nat.le_of_ble_eq_true rfl⟩, rfl⟩
theorem d115_30 : decode cX6_sharesOf 30 = .ok (.istore 4, 2) := by decide +kernel
theorem z115_30 {st : List Value} {w : pm_H} {b0 b1 b2 b4 b5 : Option Value} {x0 : Int32} {x9 : Int32} : pm_ev 115 30 [b0, b1, b2, some (.int x9), b4, b5] (.int x0 :: st) w = pm_ev 115 32 [b0, b1, b2, some (.int x9), some (.int x0), b5] st w := pm_ny pt_115 d115_30 rfl rfl rfl
theorem d115_32 : decode cX6_sharesOf 32 = .ok (.aload_n 0, 1) := by decide +kernel
theorem z115_32 {st : List Value} {w : pm_H} {b1 b2 b3 b4 b5 : Option Value} {x0 : Nat} : pm_ev 115 32 [some (.ref x0), b1, b2, b3, b4, b5] st w = pm_ev 115 33 [some (.ref x0), b1, b2, b3, b4, b5] (.ref x0 :: st) w := pm_ny pt_115 d115_32 rfl rfl rfl
theorem d115_33 : decode cX6_sharesOf 33 = .ok (.iload_n 3, 1) := by decide +kernel
theorem z115_33 {st : List Value} {w : pm_H} {b0 b1 b2 b4 b5 : Option Value} {x0 : Int32} : pm_ev 115 33 [b0, b1, b2, some (.int x0), b4, b5] st w = pm_ev 115 34 [b0, b1, b2, some (.int x0), b4, b5] (.int x0 :: st) w := pm_ny pt_115 d115_33 rfl rfl rfl
theorem d115_34 : decode cX6_sharesOf 34 = .ok (.iconst 0, 1) := by decide +kernel
theorem z115_34 {st : List Value} {w : pm_H} {pl : pm_L} : pm_ev 115 34 pl st w = pm_ev 115 35 pl (.int 0 :: st) w := pm_ny pt_115 d115_34 rfl rfl rfl
theorem d115_35 : decode cX6_sharesOf 35 = .ok (.invokestatic 134, 3) := by decide +kernel
theorem z115_35 {w : pm_H} {b0 b1 b2 b3 b4 b5 : Option Value} {x0 : Int32} {x1 : Int32} {x2 : Nat} : pm_ev 115 35 [b0, b1, b2, b3, b4, b5] [.int x0, .int x1, .ref x2] w = pm_k 115 38 [b0, b1, b2, b3, b4, b5] [] (pm_call 112 [.ref x2, .int x1, .int x0] w) := pm_ns pt_115 pt_112 pt_M_6_134 (Or.inl rfl) d115_35 ⟨rfl, rfl⟩ ⟨⟨rfl, Nat.le_of_ble_eq_true rfl, Nat.le_of_ble_eq_true rfl, Nat.le_of_ble_eq_true rfl, Nat.le_of_ble_eq_true rfl⟩, rfl⟩
theorem d115_38 : decode cX6_sharesOf 38 = .ok (.istore 5, 2) := by decide +kernel
theorem z115_38 {st : List Value} {w : pm_H} {b0 b1 b2 b3 b5 : Option Value} {x0 : Int32} {x9 : Int32} : pm_ev 115 38 [b0, b1, b2, b3, some (.int x9), b5] (.int x0 :: st) w = pm_ev 115 40 [b0, b1, b2, b3, some (.int x9), some (.int x0)] st w := pm_ny pt_115 d115_38 rfl rfl rfl
theorem d115_40 : decode cX6_sharesOf 40 = .ok (.iload 5, 2) := by decide +kernel
theorem z115_40 {st : List Value} {w : pm_H} {b0 b1 b2 b3 b4 : Option Value} {x0 : Int32} : pm_ev 115 40 [b0, b1, b2, b3, b4, some (.int x0)] st w = pm_ev 115 42 [b0, b1, b2, b3, b4, some (.int x0)] (.int x0 :: st) w := pm_ny pt_115 d115_40 rfl rfl rfl
theorem d115_42 : decode cX6_sharesOf 42 = .ok (.ifCond .ne 10, 3) := by decide +kernel
theorem z115_42 {st : List Value} {w : pm_H} {pl : pm_L} {x0 : Int32} : pm_ev 115 42 pl (.int x0 :: st) w = if x0 = 0 then pm_ev 115 45 pl st w else pm_ev 115 52 pl st w := pm_nin (c := ¬ x0 = 0) pt_115 d115_42 rfl rfl rfl Iff.rfl
theorem d115_45 : decode cX6_sharesOf 45 = .ok (.iload_n 2, 1) := by decide +kernel
theorem z115_45 {st : List Value} {w : pm_H} {b0 b1 b3 b4 b5 : Option Value} {x0 : Int32} : pm_ev 115 45 [b0, b1, some (.int x0), b3, b4, b5] st w = pm_ev 115 46 [b0, b1, some (.int x0), b3, b4, b5] (.int x0 :: st) w := pm_ny pt_115 d115_45 rfl rfl rfl
theorem d115_46 : decode cX6_sharesOf 46 = .ok (.iload 4, 2) := by decide +kernel
theorem z115_46 {st : List Value} {w : pm_H} {b0 b1 b2 b3 b5 : Option Value} {x0 : Int32} : pm_ev 115 46 [b0, b1, b2, b3, some (.int x0), b5] st w = pm_ev 115 48 [b0, b1, b2, b3, some (.int x0), b5] (.int x0 :: st) w := pm_ny pt_115 d115_46 rfl rfl rfl
theorem d115_48 : decode cX6_sharesOf 48 = .ok (.iadd, 1) := by decide +kernel
theorem z115_48 {st : List Value} {w : pm_H} {pl : pm_L} {x0 x1 : Int32} : pm_ev 115 48 pl (.int x1 :: .int x0 :: st) w = pm_ev 115 49 pl (.int (x0 + x1) :: st) w := pm_ny pt_115 d115_48 rfl rfl rfl
theorem d115_49 : decode cX6_sharesOf 49 = .ok (.goto 20, 3) := by decide +kernel
theorem z115_49 {st : List Value} {w : pm_H} {pl : pm_L} : pm_ev 115 49 pl st w = pm_ev 115 69 pl st w := pm_ny pt_115 d115_49 rfl rfl rfl
theorem d115_52 : decode cX6_sharesOf 52 = .ok (.iload 5, 2) := by decide +kernel
theorem z115_52 {st : List Value} {w : pm_H} {b0 b1 b2 b3 b4 : Option Value} {x0 : Int32} : pm_ev 115 52 [b0, b1, b2, b3, b4, some (.int x0)] st w = pm_ev 115 54 [b0, b1, b2, b3, b4, some (.int x0)] (.int x0 :: st) w := pm_ny pt_115 d115_52 rfl rfl rfl
theorem d115_54 : decode cX6_sharesOf 54 = .ok (.iconst 1, 1) := by decide +kernel
theorem z115_54 {st : List Value} {w : pm_H} {pl : pm_L} : pm_ev 115 54 pl st w = pm_ev 115 55 pl (.int 1 :: st) w := pm_ny pt_115 d115_54 rfl rfl rfl
theorem d115_55 : decode cX6_sharesOf 55 = .ok (.if_icmp .ne 10, 3) := by decide +kernel
theorem z115_55 {st : List Value} {w : pm_H} {pl : pm_L} {x0 x1 : Int32} : pm_ev 115 55 pl (.int x1 :: .int x0 :: st) w = if x0 = x1 then pm_ev 115 58 pl st w else pm_ev 115 65 pl st w := pm_nin (c := ¬ x0 = x1) pt_115 d115_55 rfl rfl rfl Iff.rfl
theorem d115_58 : decode cX6_sharesOf 58 = .ok (.iload_n 2, 1) := by decide +kernel
theorem z115_58 {st : List Value} {w : pm_H} {b0 b1 b3 b4 b5 : Option Value} {x0 : Int32} : pm_ev 115 58 [b0, b1, some (.int x0), b3, b4, b5] st w = pm_ev 115 59 [b0, b1, some (.int x0), b3, b4, b5] (.int x0 :: st) w := pm_ny pt_115 d115_58 rfl rfl rfl
theorem d115_59 : decode cX6_sharesOf 59 = .ok (.iload 4, 2) := by decide +kernel
theorem z115_59 {st : List Value} {w : pm_H} {b0 b1 b2 b3 b5 : Option Value} {x0 : Int32} : pm_ev 115 59 [b0, b1, b2, b3, some (.int x0), b5] st w = pm_ev 115 61 [b0, b1, b2, b3, some (.int x0), b5] (.int x0 :: st) w := pm_ny pt_115 d115_59 rfl rfl rfl
theorem d115_61 : decode cX6_sharesOf 61 = .ok (.isub, 1) := by decide +kernel
theorem z115_61 {st : List Value} {w : pm_H} {pl : pm_L} {x0 x1 : Int32} : pm_ev 115 61 pl (.int x1 :: .int x0 :: st) w = pm_ev 115 62 pl (.int (x0 - x1) :: st) w := pm_ny pt_115 d115_61 rfl rfl rfl
theorem d115_62 : decode cX6_sharesOf 62 = .ok (.goto 7, 3) := by decide +kernel
theorem z115_62 {st : List Value} {w : pm_H} {pl : pm_L} : pm_ev 115 62 pl st w = pm_ev 115 69 pl st w := pm_ny pt_115 d115_62 rfl rfl rfl
theorem d115_65 : decode cX6_sharesOf 65 = .ok (.iload_n 2, 1) := by decide +kernel
theorem z115_65 {st : List Value} {w : pm_H} {b0 b1 b3 b4 b5 : Option Value} {x0 : Int32} : pm_ev 115 65 [b0, b1, some (.int x0), b3, b4, b5] st w = pm_ev 115 66 [b0, b1, some (.int x0), b3, b4, b5] (.int x0 :: st) w := pm_ny pt_115 d115_65 rfl rfl rfl
theorem d115_66 : decode cX6_sharesOf 66 = .ok (.iload 4, 2) := by decide +kernel
theorem z115_66 {st : List Value} {w : pm_H} {b0 b1 b2 b3 b5 : Option Value} {x0 : Int32} : pm_ev 115 66 [b0, b1, b2, b3, some (.int x0), b5] st w = pm_ev 115 68 [b0, b1, b2, b3, some (.int x0), b5] (.int x0 :: st) w := pm_ny pt_115 d115_66 rfl rfl rfl
theorem d115_68 : decode cX6_sharesOf 68 = .ok (.imul, 1) := by decide +kernel
theorem z115_68 {st : List Value} {w : pm_H} {pl : pm_L} {x0 x1 : Int32} : pm_ev 115 68 pl (.int x1 :: .int x0 :: st) w = pm_ev 115 69 pl (.int (x0 * x1) :: st) w := pm_ny pt_115 d115_68 rfl rfl rfl
theorem d115_69 : decode cX6_sharesOf 69 = .ok (.istore_n 2, 1) := by decide +kernel
theorem z115_69 {st : List Value} {w : pm_H} {b0 b2 b3 b4 b5 : Option Value} {x0 : Int32} {x9 : Int32} : pm_ev 115 69 [b0, some (.int x9), b2, b3, b4, b5] (.int x0 :: st) w = pm_ev 115 70 [b0, some (.int x9), some (.int x0), b3, b4, b5] st w := pm_ny pt_115 d115_69 rfl rfl rfl
theorem d115_70 : decode cX6_sharesOf 70 = .ok (.iinc 3 1, 3) := by decide +kernel
theorem z115_70 {st : List Value} {w : pm_H} {b0 b1 b4 b5 : Option Value} {x0 : Int32} {x9 : Int32} : pm_ev 115 70 [b0, b1, some (.int x9), some (.int x0), b4, b5] st w = pm_ev 115 73 [b0, b1, some (.int x9), some (.int (x0 + 1)), b4, b5] st w := pm_ny pt_115 d115_70 rfl rfl rfl
theorem d115_73 : decode cX6_sharesOf 73 = .ok (.goto (-67), 3) := by decide +kernel
theorem z115_73 {st : List Value} {w : pm_H} {pl : pm_L} : pm_ev 115 73 pl st w = pm_ev 115 6 pl st w := pm_ny pt_115 d115_73 rfl rfl rfl
theorem d115_76 : decode cX6_sharesOf 76 = .ok (.iload_n 2, 1) := by decide +kernel
theorem z115_76 {st : List Value} {w : pm_H} {b0 b1 b3 b4 b5 : Option Value} {x0 : Int32} : pm_ev 115 76 [b0, b1, some (.int x0), b3, b4, b5] st w = pm_ev 115 77 [b0, b1, some (.int x0), b3, b4, b5] (.int x0 :: st) w := pm_ny pt_115 d115_76 rfl rfl rfl
theorem d115_77 : decode cX6_sharesOf 77 = .ok (.ireturn, 1) := by decide +kernel
theorem z115_77 {w : pm_H} {pl : pm_L} {x0 : Int32} : pm_ev 115 77 pl [.int x0] w = some (some (.int x0), w) := pm_nr pt_115 d115_77 rfl
theorem d116_0 : decode cX6_readGrant 0 = .ok (.aload_n 0, 1) := by decide +kernel
theorem z116_0 {st : List Value} {w : pm_H} {b1 b2 : Option Value} {x0 : Nat} : pm_ev 116 0 [some (.ref x0), b1, b2] st w = pm_ev 116 1 [some (.ref x0), b1, b2] (.ref x0 :: st) w := pm_ny pt_116 d116_0 rfl rfl rfl
theorem d116_1 : decode cX6_readGrant 1 = .ok (.getfield 87, 3) := by decide +kernel
theorem z116_1 {st : List Value} {w : pm_H} {pl : pm_L} {x0 : Nat} : pm_ev 116 1 pl (.ref x0 :: st) w = pm_kv 116 4 pl st w (pm_gf (w x0) 6 12) := pm_ng pt_116 pt_F_6_87 d116_1
theorem d116_4 : decode cX6_readGrant 4 = .ok (.bipush 70, 2) := by decide +kernel
theorem z116_4 {st : List Value} {w : pm_H} {pl : pm_L} : pm_ev 116 4 pl st w = pm_ev 116 6 pl (.int 70 :: st) w := pm_ny pt_116 d116_4 rfl rfl rfl
theorem d116_6 : decode cX6_readGrant 6 = .ok (.iaload, 1) := by decide +kernel
theorem z116_6 {st : List Value} {w : pm_H} {pl : pm_L} {x0 : Nat} {x1 : Int32} : pm_ev 116 6 pl (.int x1 :: .ref x0 :: st) w = pm_kv 116 7 pl st w (pm_ia (w x0) 0 x1) := pm_nia pt_116 d116_6
theorem d116_7 : decode cX6_readGrant 7 = .ok (.bipush 8, 2) := by decide +kernel
theorem z116_7 {st : List Value} {w : pm_H} {pl : pm_L} : pm_ev 116 7 pl st w = pm_ev 116 9 pl (.int 8 :: st) w := pm_ny pt_116 d116_7 rfl rfl rfl
theorem d116_9 : decode cX6_readGrant 9 = .ok (.if_icmp .ne 9, 3) := by decide +kernel
theorem z116_9 {st : List Value} {w : pm_H} {pl : pm_L} {x0 x1 : Int32} : pm_ev 116 9 pl (.int x1 :: .int x0 :: st) w = if x0 = x1 then pm_ev 116 12 pl st w else pm_ev 116 18 pl st w := pm_nin (c := ¬ x0 = x1) pt_116 d116_9 rfl rfl rfl Iff.rfl
theorem d116_12 : decode cX6_readGrant 12 = .ok (.aload_n 0, 1) := by decide +kernel
theorem z116_12 {st : List Value} {w : pm_H} {b1 b2 : Option Value} {x0 : Nat} : pm_ev 116 12 [some (.ref x0), b1, b2] st w = pm_ev 116 13 [some (.ref x0), b1, b2] (.ref x0 :: st) w := pm_ny pt_116 d116_12 rfl rfl rfl
theorem d116_13 : decode cX6_readGrant 13 = .ok (.iconst 3, 1) := by decide +kernel
theorem z116_13 {st : List Value} {w : pm_H} {pl : pm_L} : pm_ev 116 13 pl st w = pm_ev 116 14 pl (.int 3 :: st) w := pm_ny pt_116 d116_13 rfl rfl rfl
theorem d116_14 : decode cX6_readGrant 14 = .ok (.invokevirtual 107, 3) := by decide +kernel
theorem z116_14 {w : pm_H} {b0 b1 b2 : Option Value} {x0 : Int32} {x1 : Nat} : pm_ev 116 14 [b0, b1, b2] [.int x0, .ref x1] w = pm_k 116 17 [b0, b1, b2] [] (pm_vc (w x1) 6 (pm_call 102 [.ref x1, .int x0] w)) := pm_nv pt_116 pt_102 pt_M_6_107 d116_14 ⟨rfl, rfl⟩ ⟨⟨rfl, Nat.le_of_ble_eq_true rfl, Nat.le_of_ble_eq_true rfl, Nat.le_of_ble_eq_true rfl, Nat.le_of_ble_eq_true rfl⟩, rfl⟩
theorem d116_17 : decode cX6_readGrant 17 = .ok (.ireturn, 1) := by decide +kernel
theorem z116_17 {w : pm_H} {pl : pm_L} {x0 : Int32} : pm_ev 116 17 pl [.int x0] w = pm_zr x0 w := pm_nz pt_116 d116_17
theorem d116_18 : decode cX6_readGrant 18 = .ok (.aload_n 0, 1) := by decide +kernel
theorem z116_18 {st : List Value} {w : pm_H} {b1 b2 : Option Value} {x0 : Nat} : pm_ev 116 18 [some (.ref x0), b1, b2] st w = pm_ev 116 19 [some (.ref x0), b1, b2] (.ref x0 :: st) w := pm_ny pt_116 d116_18 rfl rfl rfl
theorem d116_19 : decode cX6_readGrant 19 = .ok (.invokevirtual 114, 3) := by decide +kernel
theorem z116_19 {w : pm_H} {b0 b1 b2 : Option Value} {x0 : Nat} : pm_ev 116 19 [b0, b1, b2] [.ref x0] w = pm_k 116 22 [b0, b1, b2] [] (pm_vc (w x0) 6 (pm_call 92 [.ref x0] w)) := pm_nv pt_116 pt_92 pt_M_6_114 d116_19 ⟨rfl, rfl⟩ ⟨⟨rfl, Nat.le_of_ble_eq_true rfl, Nat.le_of_ble_eq_true rfl, Nat.le_of_ble_eq_true rfl, Nat.le_of_ble_eq_true rfl⟩, rfl⟩
theorem d116_22 : decode cX6_readGrant 22 = .ok (.bipush 71, 2) := by decide +kernel
theorem z116_22 {st : List Value} {w : pm_H} {pl : pm_L} : pm_ev 116 22 pl st w = pm_ev 116 24 pl (.int 71 :: st) w := pm_ny pt_116 d116_22 rfl rfl rfl
theorem d116_24 : decode cX6_readGrant 24 = .ok (.iconst 4, 1) := by decide +kernel
theorem z116_24 {st : List Value} {w : pm_H} {pl : pm_L} : pm_ev 116 24 pl st w = pm_ev 116 25 pl (.int 4 :: st) w := pm_ny pt_116 d116_24 rfl rfl rfl
theorem d116_25 : decode cX6_readGrant 25 = .ok (.aload_n 0, 1) := by decide +kernel
theorem z116_25 {st : List Value} {w : pm_H} {b1 b2 : Option Value} {x0 : Nat} : pm_ev 116 25 [some (.ref x0), b1, b2] st w = pm_ev 116 26 [some (.ref x0), b1, b2] (.ref x0 :: st) w := pm_ny pt_116 d116_25 rfl rfl rfl
theorem d116_26 : decode cX6_readGrant 26 = .ok (.getfield 87, 3) := by decide +kernel
theorem z116_26 {st : List Value} {w : pm_H} {pl : pm_L} {x0 : Nat} : pm_ev 116 26 pl (.ref x0 :: st) w = pm_kv 116 29 pl st w (pm_gf (w x0) 6 12) := pm_ng pt_116 pt_F_6_87 d116_26
theorem d116_29 : decode cX6_readGrant 29 = .ok (.bipush 70, 2) := by decide +kernel
theorem z116_29 {st : List Value} {w : pm_H} {pl : pm_L} : pm_ev 116 29 pl st w = pm_ev 116 31 pl (.int 70 :: st) w := pm_ny pt_116 d116_29 rfl rfl rfl
theorem d116_31 : decode cX6_readGrant 31 = .ok (.iaload, 1) := by decide +kernel
theorem z116_31 {st : List Value} {w : pm_H} {pl : pm_L} {x0 : Nat} {x1 : Int32} : pm_ev 116 31 pl (.int x1 :: .ref x0 :: st) w = pm_kv 116 32 pl st w (pm_ia (w x0) 0 x1) := pm_nia pt_116 d116_31
theorem d116_32 : decode cX6_readGrant 32 = .ok (.imul, 1) := by decide +kernel
theorem z116_32 {st : List Value} {w : pm_H} {pl : pm_L} {x0 x1 : Int32} : pm_ev 116 32 pl (.int x1 :: .int x0 :: st) w = pm_ev 116 33 pl (.int (x0 * x1) :: st) w := pm_ny pt_116 d116_32 rfl rfl rfl
theorem d116_33 : decode cX6_readGrant 33 = .ok (.iadd, 1) := by decide +kernel
theorem z116_33 {st : List Value} {w : pm_H} {pl : pm_L} {x0 x1 : Int32} : pm_ev 116 33 pl (.int x1 :: .int x0 :: st) w = pm_ev 116 34 pl (.int (x0 + x1) :: st) w := pm_ny pt_116 d116_33 rfl rfl rfl
theorem d116_34 : decode cX6_readGrant 34 = .ok (.istore_n 2, 1) := by decide +kernel
theorem z116_34 {st : List Value} {w : pm_H} {b0 b2 : Option Value} {x0 : Int32} {x9 : Int32} : pm_ev 116 34 [b0, some (.int x9), b2] (.int x0 :: st) w = pm_ev 116 35 [b0, some (.int x9), some (.int x0)] st w := pm_ny pt_116 d116_34 rfl rfl rfl
theorem d116_35 : decode cX6_readGrant 35 = .ok (.aload_n 0, 1) := by decide +kernel
theorem z116_35 {st : List Value} {w : pm_H} {b1 b2 : Option Value} {x0 : Nat} : pm_ev 116 35 [some (.ref x0), b1, b2] st w = pm_ev 116 36 [some (.ref x0), b1, b2] (.ref x0 :: st) w := pm_ny pt_116 d116_35 rfl rfl rfl
theorem d116_36 : decode cX6_readGrant 36 = .ok (.getfield 87, 3) := by decide +kernel
theorem z116_36 {st : List Value} {w : pm_H} {pl : pm_L} {x0 : Nat} : pm_ev 116 36 pl (.ref x0 :: st) w = pm_kv 116 39 pl st w (pm_gf (w x0) 6 12) := pm_ng pt_116 pt_F_6_87 d116_36
theorem d116_39 : decode cX6_readGrant 39 = .ok (.iload_n 2, 1) := by decide +kernel
theorem z116_39 {st : List Value} {w : pm_H} {b0 b1 : Option Value} {x0 : Int32} : pm_ev 116 39 [b0, b1, some (.int x0)] st w = pm_ev 116 40 [b0, b1, some (.int x0)] (.int x0 :: st) w := pm_ny pt_116 d116_39 rfl rfl rfl
theorem d116_40 : decode cX6_readGrant 40 = .ok (.iload_n 1, 1) := by decide +kernel
theorem z116_40 {st : List Value} {w : pm_H} {b0 b2 : Option Value} {x0 : Int32} : pm_ev 116 40 [b0, some (.int x0), b2] st w = pm_ev 116 41 [b0, some (.int x0), b2] (.int x0 :: st) w := pm_ny pt_116 d116_40 rfl rfl rfl
theorem d116_41 : decode cX6_readGrant 41 = .ok (.iastore, 1) := by decide +kernel
theorem z116_41 {st : List Value} {w : pm_H} {pl : pm_L} {x0 : Nat} {x1 : Int32} {x2 : Int32} : pm_ev 116 41 pl (.int x2 :: .int x1 :: .ref x0 :: st) w = pm_kw 116 42 pl st (pm_is w x0 (w x0) x1 x2) := pm_nis pt_116 d116_41
theorem d116_42 : decode cX6_readGrant 42 = .ok (.aload_n 0, 1) := by decide +kernel
theorem z116_42 {st : List Value} {w : pm_H} {b1 b2 : Option Value} {x0 : Nat} : pm_ev 116 42 [some (.ref x0), b1, b2] st w = pm_ev 116 43 [some (.ref x0), b1, b2] (.ref x0 :: st) w := pm_ny pt_116 d116_42 rfl rfl rfl
theorem d116_43 : decode cX6_readGrant 43 = .ok (.iload_n 2, 1) := by decide +kernel
theorem z116_43 {st : List Value} {w : pm_H} {b0 b1 : Option Value} {x0 : Int32} : pm_ev 116 43 [b0, b1, some (.int x0)] st w = pm_ev 116 44 [b0, b1, some (.int x0)] (.int x0 :: st) w := pm_ny pt_116 d116_43 rfl rfl rfl
theorem d116_44 : decode cX6_readGrant 44 = .ok (.iconst 1, 1) := by decide +kernel
theorem z116_44 {st : List Value} {w : pm_H} {pl : pm_L} : pm_ev 116 44 pl st w = pm_ev 116 45 pl (.int 1 :: st) w := pm_ny pt_116 d116_44 rfl rfl rfl
theorem d116_45 : decode cX6_readGrant 45 = .ok (.iadd, 1) := by decide +kernel
theorem z116_45 {st : List Value} {w : pm_H} {pl : pm_L} {x0 x1 : Int32} : pm_ev 116 45 pl (.int x1 :: .int x0 :: st) w = pm_ev 116 46 pl (.int (x0 + x1) :: st) w := pm_ny pt_116 d116_45 rfl rfl rfl
theorem d116_46 : decode cX6_readGrant 46 = .ok (.iconst 0, 1) := by decide +kernel
theorem z116_46 {st : List Value} {w : pm_H} {pl : pm_L} : pm_ev 116 46 pl st w = pm_ev 116 47 pl (.int 0 :: st) w := pm_ny pt_116 d116_46 rfl rfl rfl
theorem d116_47 : decode cX6_readGrant 47 = .ok (.sipush 359, 3) := by decide +kernel
theorem z116_47 {st : List Value} {w : pm_H} {pl : pm_L} : pm_ev 116 47 pl st w = pm_ev 116 50 pl (.int 359 :: st) w := pm_ny pt_116 d116_47 rfl rfl rfl
theorem d116_50 : decode cX6_readGrant 50 = .ok (.invokevirtual 118, 3) := by decide +kernel
theorem z116_50 {w : pm_H} {b0 b1 b2 : Option Value} {x0 : Int32} {x1 : Int32} {x2 : Int32} {x3 : Nat} : pm_ev 116 50 [b0, b1, b2] [.int x0, .int x1, .int x2, .ref x3] w = pm_k 116 53 [b0, b1, b2] [] (pm_vc (w x3) 6 (pm_call 103 [.ref x3, .int x2, .int x1, .int x0] w)) := pm_nv pt_116 pt_103 pt_M_6_118 d116_50 ⟨rfl, rfl⟩ ⟨⟨rfl, Nat.le_of_ble_eq_true rfl, Nat.le_of_ble_eq_true rfl, Nat.le_of_ble_eq_true rfl, Nat.le_of_ble_eq_true rfl⟩, rfl⟩
theorem d116_53 : decode cX6_readGrant 53 = .ok (.ifCond .eq 17, 3) := by decide +kernel
theorem z116_53 {st : List Value} {w : pm_H} {pl : pm_L} {x0 : Int32} : pm_ev 116 53 pl (.int x0 :: st) w = if x0 = 0 then pm_ev 116 70 pl st w else pm_ev 116 56 pl st w := pm_nif pt_116 d116_53 rfl rfl rfl
theorem d116_56 : decode cX6_readGrant 56 = .ok (.aload_n 0, 1) := by decide +kernel
theorem z116_56 {st : List Value} {w : pm_H} {b1 b2 : Option Value} {x0 : Nat} : pm_ev 116 56 [some (.ref x0), b1, b2] st w = pm_ev 116 57 [some (.ref x0), b1, b2] (.ref x0 :: st) w := pm_ny pt_116 d116_56 rfl rfl rfl
theorem d116_57 : decode cX6_readGrant 57 = .ok (.iload_n 2, 1) := by decide +kernel
theorem z116_57 {st : List Value} {w : pm_H} {b0 b1 : Option Value} {x0 : Int32} : pm_ev 116 57 [b0, b1, some (.int x0)] st w = pm_ev 116 58 [b0, b1, some (.int x0)] (.int x0 :: st) w := pm_ny pt_116 d116_57 rfl rfl rfl
theorem d116_58 : decode cX6_readGrant 58 = .ok (.iconst 2, 1) := by decide +kernel
theorem z116_58 {st : List Value} {w : pm_H} {pl : pm_L} : pm_ev 116 58 pl st w = pm_ev 116 59 pl (.int 2 :: st) w := pm_ny pt_116 d116_58 rfl rfl rfl
theorem d116_59 : decode cX6_readGrant 59 = .ok (.iadd, 1) := by decide +kernel
theorem z116_59 {st : List Value} {w : pm_H} {pl : pm_L} {x0 x1 : Int32} : pm_ev 116 59 pl (.int x1 :: .int x0 :: st) w = pm_ev 116 60 pl (.int (x0 + x1) :: st) w := pm_ny pt_116 d116_59 rfl rfl rfl
theorem d116_60 : decode cX6_readGrant 60 = .ok (.iconst 1, 1) := by decide +kernel
theorem z116_60 {st : List Value} {w : pm_H} {pl : pm_L} : pm_ev 116 60 pl st w = pm_ev 116 61 pl (.int 1 :: st) w := pm_ny pt_116 d116_60 rfl rfl rfl
theorem d116_61 : decode cX6_readGrant 61 = .ok (.sipush 9999, 3) := by decide +kernel
theorem z116_61 {st : List Value} {w : pm_H} {pl : pm_L} : pm_ev 116 61 pl st w = pm_ev 116 64 pl (.int 9999 :: st) w := pm_ny pt_116 d116_61 rfl rfl rfl
theorem d116_64 : decode cX6_readGrant 64 = .ok (.invokevirtual 118, 3) := by decide +kernel
theorem z116_64 {w : pm_H} {b0 b1 b2 : Option Value} {x0 : Int32} {x1 : Int32} {x2 : Int32} {x3 : Nat} : pm_ev 116 64 [b0, b1, b2] [.int x0, .int x1, .int x2, .ref x3] w = pm_k 116 67 [b0, b1, b2] [] (pm_vc (w x3) 6 (pm_call 103 [.ref x3, .int x2, .int x1, .int x0] w)) := pm_nv pt_116 pt_103 pt_M_6_118 d116_64 ⟨rfl, rfl⟩ ⟨⟨rfl, Nat.le_of_ble_eq_true rfl, Nat.le_of_ble_eq_true rfl, Nat.le_of_ble_eq_true rfl, Nat.le_of_ble_eq_true rfl⟩, rfl⟩
theorem d116_67 : decode cX6_readGrant 67 = .ok (.ifCond .ne 5, 3) := by decide +kernel
theorem z116_67 {st : List Value} {w : pm_H} {pl : pm_L} {x0 : Int32} : pm_ev 116 67 pl (.int x0 :: st) w = if x0 = 0 then pm_ev 116 70 pl st w else pm_ev 116 72 pl st w := pm_nin (c := ¬ x0 = 0) pt_116 d116_67 rfl rfl rfl Iff.rfl
theorem d116_70 : decode cX6_readGrant 70 = .ok (.iconst 0, 1) := by decide +kernel
theorem z116_70 {st : List Value} {w : pm_H} {pl : pm_L} : pm_ev 116 70 pl st w = pm_ev 116 71 pl (.int 0 :: st) w := pm_ny pt_116 d116_70 rfl rfl rfl
theorem d116_71 : decode cX6_readGrant 71 = .ok (.ireturn, 1) := by decide +kernel
theorem z116_71 {w : pm_H} {pl : pm_L} {x0 : Int32} : pm_ev 116 71 pl [.int x0] w = pm_zr x0 w := pm_nz pt_116 d116_71
theorem d116_72 : decode cX6_readGrant 72 = .ok (.iload_n 1, 1) := by decide +kernel
theorem z116_72 {st : List Value} {w : pm_H} {b0 b2 : Option Value} {x0 : Int32} : pm_ev 116 72 [b0, some (.int x0), b2] st w = pm_ev 116 73 [b0, some (.int x0), b2] (.int x0 :: st) w := pm_ny pt_116 d116_72 rfl rfl rfl
theorem d116_73 : decode cX6_readGrant 73 = .ok (.iconst 2, 1) := by decide +kernel
theorem z116_73 {st : List Value} {w : pm_H} {pl : pm_L} : pm_ev 116 73 pl st w = pm_ev 116 74 pl (.int 2 :: st) w := pm_ny pt_116 d116_73 rfl rfl rfl
theorem d116_74 : decode cX6_readGrant 74 = .ok (.if_icmp .ne 41, 3) := by decide +kernel
theorem z116_74 {st : List Value} {w : pm_H} {pl : pm_L} {x0 x1 : Int32} : pm_ev 116 74 pl (.int x1 :: .int x0 :: st) w = if x0 = x1 then pm_ev 116 77 pl st w else pm_ev 116 115 pl st w := pm_nin (c := ¬ x0 = x1) pt_116 d116_74 rfl rfl rfl Iff.rfl
theorem d116_77 : decode cX6_readGrant 77 = .ok (.aload_n 0, 1) := by decide +kernel
theorem z116_77 {st : List Value} {w : pm_H} {b1 b2 : Option Value} {x0 : Nat} : pm_ev 116 77 [some (.ref x0), b1, b2] st w = pm_ev 116 78 [some (.ref x0), b1, b2] (.ref x0 :: st) w := pm_ny pt_116 d116_77 rfl rfl rfl
theorem d116_78 : decode cX6_readGrant 78 = .ok (.invokevirtual 123, 3) := by decide +kernel
theorem z116_78 {w : pm_H} {b0 b1 b2 : Option Value} {x0 : Nat} : pm_ev 116 78 [b0, b1, b2] [.ref x0] w = pm_k 116 81 [b0, b1, b2] [] (pm_vc (w x0) 6 (pm_call 105 [.ref x0] w)) := pm_nv pt_116 pt_105 pt_M_6_123 d116_78 ⟨rfl, rfl⟩ ⟨⟨rfl, Nat.le_of_ble_eq_true rfl, Nat.le_of_ble_eq_true rfl, Nat.le_of_ble_eq_true rfl, Nat.le_of_ble_eq_true rfl⟩, rfl⟩
theorem d116_81 : decode cX6_readGrant 81 = .ok (.ifCond .ne 16, 3) := by decide +kernel
theorem z116_81 {st : List Value} {w : pm_H} {pl : pm_L} {x0 : Int32} : pm_ev 116 81 pl (.int x0 :: st) w = if x0 = 0 then pm_ev 116 84 pl st w else pm_ev 116 97 pl st w := pm_nin (c := ¬ x0 = 0) pt_116 d116_81 rfl rfl rfl Iff.rfl
theorem d116_84 : decode cX6_readGrant 84 = .ok (.aload_n 0, 1) := by decide +kernel
theorem z116_84 {st : List Value} {w : pm_H} {b1 b2 : Option Value} {x0 : Nat} : pm_ev 116 84 [some (.ref x0), b1, b2] st w = pm_ev 116 85 [some (.ref x0), b1, b2] (.ref x0 :: st) w := pm_ny pt_116 d116_84 rfl rfl rfl
theorem d116_85 : decode cX6_readGrant 85 = .ok (.invokevirtual 131, 3) := by decide +kernel
theorem z116_85 {w : pm_H} {b0 b1 b2 : Option Value} {x0 : Nat} : pm_ev 116 85 [b0, b1, b2] [.ref x0] w = pm_k 116 88 [b0, b1, b2] [] (pm_vc (w x0) 6 (pm_call 107 [.ref x0] w)) := pm_nv pt_116 pt_107 pt_M_6_131 d116_85 ⟨rfl, rfl⟩ ⟨⟨rfl, Nat.le_of_ble_eq_true rfl, Nat.le_of_ble_eq_true rfl, Nat.le_of_ble_eq_true rfl, Nat.le_of_ble_eq_true rfl⟩, rfl⟩
theorem d116_88 : decode cX6_readGrant 88 = .ok (.ifCond .ne 9, 3) := by decide +kernel
theorem z116_88 {st : List Value} {w : pm_H} {pl : pm_L} {x0 : Int32} : pm_ev 116 88 pl (.int x0 :: st) w = if x0 = 0 then pm_ev 116 91 pl st w else pm_ev 116 97 pl st w := pm_nin (c := ¬ x0 = 0) pt_116 d116_88 rfl rfl rfl Iff.rfl
theorem d116_91 : decode cX6_readGrant 91 = .ok (.aload_n 0, 1) := by decide +kernel
theorem z116_91 {st : List Value} {w : pm_H} {b1 b2 : Option Value} {x0 : Nat} : pm_ev 116 91 [some (.ref x0), b1, b2] st w = pm_ev 116 92 [some (.ref x0), b1, b2] (.ref x0 :: st) w := pm_ny pt_116 d116_91 rfl rfl rfl
theorem d116_92 : decode cX6_readGrant 92 = .ok (.iconst 1, 1) := by decide +kernel
theorem z116_92 {st : List Value} {w : pm_H} {pl : pm_L} : pm_ev 116 92 pl st w = pm_ev 116 93 pl (.int 1 :: st) w := pm_ny pt_116 d116_92 rfl rfl rfl
theorem d116_93 : decode cX6_readGrant 93 = .ok (.invokevirtual 107, 3) := by decide +kernel
theorem z116_93 {w : pm_H} {b0 b1 b2 : Option Value} {x0 : Int32} {x1 : Nat} : pm_ev 116 93 [b0, b1, b2] [.int x0, .ref x1] w = pm_k 116 96 [b0, b1, b2] [] (pm_vc (w x1) 6 (pm_call 102 [.ref x1, .int x0] w)) := pm_nv pt_116 pt_102 pt_M_6_107 d116_93 ⟨rfl, rfl⟩ ⟨⟨rfl, Nat.le_of_ble_eq_true rfl, Nat.le_of_ble_eq_true rfl, Nat.le_of_ble_eq_true rfl, Nat.le_of_ble_eq_true rfl⟩, rfl⟩
theorem d116_96 : decode cX6_readGrant 96 = .ok (.ireturn, 1) := by decide +kernel
theorem z116_96 {w : pm_H} {pl : pm_L} {x0 : Int32} : pm_ev 116 96 pl [.int x0] w = pm_zr x0 w := pm_nz pt_116 d116_96
theorem d116_97 : decode cX6_readGrant 97 = .ok (.aload_n 0, 1) := by decide +kernel
theorem z116_97 {st : List Value} {w : pm_H} {b1 b2 : Option Value} {x0 : Nat} : pm_ev 116 97 [some (.ref x0), b1, b2] st w = pm_ev 116 98 [some (.ref x0), b1, b2] (.ref x0 :: st) w := pm_ny pt_116 d116_97 rfl rfl rfl
theorem d116_98 : decode cX6_readGrant 98 = .ok (.invokevirtual 131, 3) := by decide +kernel
theorem z116_98 {w : pm_H} {b0 b1 b2 : Option Value} {x0 : Nat} : pm_ev 116 98 [b0, b1, b2] [.ref x0] w = pm_k 116 101 [b0, b1, b2] [] (pm_vc (w x0) 6 (pm_call 107 [.ref x0] w)) := pm_nv pt_116 pt_107 pt_M_6_131 d116_98 ⟨rfl, rfl⟩ ⟨⟨rfl, Nat.le_of_ble_eq_true rfl, Nat.le_of_ble_eq_true rfl, Nat.le_of_ble_eq_true rfl, Nat.le_of_ble_eq_true rfl⟩, rfl⟩
theorem d116_101 : decode cX6_readGrant 101 = .ok (.ifCond .eq 10, 3) := by decide +kernel
theorem z116_101 {st : List Value} {w : pm_H} {pl : pm_L} {x0 : Int32} : pm_ev 116 101 pl (.int x0 :: st) w = if x0 = 0 then pm_ev 116 111 pl st w else pm_ev 116 104 pl st w := pm_nif pt_116 d116_101 rfl rfl rfl
theorem d116_104 : decode cX6_readGrant 104 = .ok (.aload_n 0, 1) := by decide +kernel
theorem z116_104 {st : List Value} {w : pm_H} {b1 b2 : Option Value} {x0 : Nat} : pm_ev 116 104 [some (.ref x0), b1, b2] st w = pm_ev 116 105 [some (.ref x0), b1, b2] (.ref x0 :: st) w := pm_ny pt_116 d116_104 rfl rfl rfl
theorem d116_105 : decode cX6_readGrant 105 = .ok (.getfield 87, 3) := by decide +kernel
theorem z116_105 {st : List Value} {w : pm_H} {pl : pm_L} {x0 : Nat} : pm_ev 116 105 pl (.ref x0 :: st) w = pm_kv 116 108 pl st w (pm_gf (w x0) 6 12) := pm_ng pt_116 pt_F_6_87 d116_105
theorem d116_108 : decode cX6_readGrant 108 = .ok (.iload_n 2, 1) := by decide +kernel
theorem z116_108 {st : List Value} {w : pm_H} {b0 b1 : Option Value} {x0 : Int32} : pm_ev 116 108 [b0, b1, some (.int x0)] st w = pm_ev 116 109 [b0, b1, some (.int x0)] (.int x0 :: st) w := pm_ny pt_116 d116_108 rfl rfl rfl
theorem d116_109 : decode cX6_readGrant 109 = .ok (.iconst 3, 1) := by decide +kernel
theorem z116_109 {st : List Value} {w : pm_H} {pl : pm_L} : pm_ev 116 109 pl st w = pm_ev 116 110 pl (.int 3 :: st) w := pm_ny pt_116 d116_109 rfl rfl rfl
theorem d116_110 : decode cX6_readGrant 110 = .ok (.iastore, 1) := by decide +kernel
theorem z116_110 {st : List Value} {w : pm_H} {pl : pm_L} {x0 : Nat} {x1 : Int32} {x2 : Int32} : pm_ev 116 110 pl (.int x2 :: .int x1 :: .ref x0 :: st) w = pm_kw 116 111 pl st (pm_is w x0 (w x0) x1 x2) := pm_nis pt_116 d116_110
theorem d116_111 : decode cX6_readGrant 111 = .ok (.aload_n 0, 1) := by decide +kernel
theorem z116_111 {st : List Value} {w : pm_H} {b1 b2 : Option Value} {x0 : Nat} : pm_ev 116 111 [some (.ref x0), b1, b2] st w = pm_ev 116 112 [some (.ref x0), b1, b2] (.ref x0 :: st) w := pm_ny pt_116 d116_111 rfl rfl rfl
theorem d116_112 : decode cX6_readGrant 112 = .ok (.invokevirtual 114, 3) := by decide +kernel
theorem z116_112 {w : pm_H} {b0 b1 b2 : Option Value} {x0 : Nat} : pm_ev 116 112 [b0, b1, b2] [.ref x0] w = pm_k 116 115 [b0, b1, b2] [] (pm_vc (w x0) 6 (pm_call 92 [.ref x0] w)) := pm_nv pt_116 pt_92 pt_M_6_114 d116_112 ⟨rfl, rfl⟩ ⟨⟨rfl, Nat.le_of_ble_eq_true rfl, Nat.le_of_ble_eq_true rfl, Nat.le_of_ble_eq_true rfl, Nat.le_of_ble_eq_true rfl⟩, rfl⟩
theorem d116_115 : decode cX6_readGrant 115 = .ok (.aload_n 0, 1) := by decide +kernel
theorem z116_115 {st : List Value} {w : pm_H} {b1 b2 : Option Value} {x0 : Nat} : pm_ev 116 115 [some (.ref x0), b1, b2] st w = pm_ev 116 116 [some (.ref x0), b1, b2] (.ref x0 :: st) w := pm_ny pt_116 d116_115 rfl rfl rfl
theorem d116_116 : decode cX6_readGrant 116 = .ok (.iload_n 2, 1) := by decide +kernel
theorem z116_116 {st : List Value} {w : pm_H} {b0 b1 : Option Value} {x0 : Int32} : pm_ev 116 116 [b0, b1, some (.int x0)] st w = pm_ev 116 117 [b0, b1, some (.int x0)] (.int x0 :: st) w := pm_ny pt_116 d116_116 rfl rfl rfl
theorem d116_117 : decode cX6_readGrant 117 = .ok (.iconst 3, 1) := by decide +kernel
theorem z116_117 {st : List Value} {w : pm_H} {pl : pm_L} : pm_ev 116 117 pl st w = pm_ev 116 118 pl (.int 3 :: st) w := pm_ny pt_116 d116_117 rfl rfl rfl
theorem d116_118 : decode cX6_readGrant 118 = .ok (.iadd, 1) := by decide +kernel
theorem z116_118 {st : List Value} {w : pm_H} {pl : pm_L} {x0 x1 : Int32} : pm_ev 116 118 pl (.int x1 :: .int x0 :: st) w = pm_ev 116 119 pl (.int (x0 + x1) :: st) w := pm_ny pt_116 d116_118 rfl rfl rfl
theorem d116_119 : decode cX6_readGrant 119 = .ok (.iload_n 1, 1) := by decide +kernel
theorem z116_119 {st : List Value} {w : pm_H} {b0 b2 : Option Value} {x0 : Int32} : pm_ev 116 119 [b0, some (.int x0), b2] st w = pm_ev 116 120 [b0, some (.int x0), b2] (.int x0 :: st) w := pm_ny pt_116 d116_119 rfl rfl rfl
theorem d116_120 : decode cX6_readGrant 120 = .ok (.ifCond .ne 7, 3) := by decide +kernel
theorem z116_120 {st : List Value} {w : pm_H} {pl : pm_L} {x0 : Int32} : pm_ev 116 120 pl (.int x0 :: st) w = if x0 = 0 then pm_ev 116 123 pl st w else pm_ev 116 127 pl st w := pm_nin (c := ¬ x0 = 0) pt_116 d116_120 rfl rfl rfl Iff.rfl
theorem d116_123 : decode cX6_readGrant 123 = .ok (.iconst 1, 1) := by decide +kernel
theorem z116_123 {st : List Value} {w : pm_H} {pl : pm_L} : pm_ev 116 123 pl st w = pm_ev 116 124 pl (.int 1 :: st) w := pm_ny pt_116 d116_123 rfl rfl rfl
theorem d116_124 : decode cX6_readGrant 124 = .ok (.goto 4, 3) := by decide +kernel
theorem z116_124 {st : List Value} {w : pm_H} {pl : pm_L} : pm_ev 116 124 pl st w = pm_ev 116 128 pl st w := pm_ny pt_116 d116_124 rfl rfl rfl
theorem d116_127 : decode cX6_readGrant 127 = .ok (.iconst 0, 1) := by decide +kernel
theorem z116_127 {st : List Value} {w : pm_H} {pl : pm_L} : pm_ev 116 127 pl st w = pm_ev 116 128 pl (.int 0 :: st) w := pm_ny pt_116 d116_127 rfl rfl rfl
theorem d116_128 : decode cX6_readGrant 128 = .ok (.iload_n 1, 1) := by decide +kernel
theorem z116_128 {st : List Value} {w : pm_H} {b0 b2 : Option Value} {x0 : Int32} : pm_ev 116 128 [b0, some (.int x0), b2] st w = pm_ev 116 129 [b0, some (.int x0), b2] (.int x0 :: st) w := pm_ny pt_116 d116_128 rfl rfl rfl
theorem d116_129 : decode cX6_readGrant 129 = .ok (.ifCond .ne 9, 3) := by decide +kernel
theorem z116_129 {st : List Value} {w : pm_H} {pl : pm_L} {x0 : Int32} : pm_ev 116 129 pl (.int x0 :: st) w = if x0 = 0 then pm_ev 116 132 pl st w else pm_ev 116 138 pl st w := pm_nin (c := ¬ x0 = 0) pt_116 d116_129 rfl rfl rfl Iff.rfl
theorem d116_132 : decode cX6_readGrant 132 = .ok (.sipush 9999, 3) := by decide +kernel
theorem z116_132 {st : List Value} {w : pm_H} {pl : pm_L} : pm_ev 116 132 pl st w = pm_ev 116 135 pl (.int 9999 :: st) w := pm_ny pt_116 d116_132 rfl rfl rfl
theorem d116_135 : decode cX6_readGrant 135 = .ok (.goto 5, 3) := by decide +kernel
theorem z116_135 {st : List Value} {w : pm_H} {pl : pm_L} : pm_ev 116 135 pl st w = pm_ev 116 140 pl st w := pm_ny pt_116 d116_135 rfl rfl rfl
theorem d116_138 : decode cX6_readGrant 138 = .ok (.ldc 117, 2) := by decide +kernel
theorem z116_138 {st : List Value} {w : pm_H} {pl : pm_L} : pm_ev 116 138 pl st w = pm_ev 116 140 pl (.int (99999) :: st) w := pm_nk pt_116 pt_K_6_117 (by decide) d116_138
theorem d116_140 : decode cX6_readGrant 140 = .ok (.invokevirtual 118, 3) := by decide +kernel
theorem z116_140 {w : pm_H} {b0 b1 b2 : Option Value} {x0 : Int32} {x1 : Int32} {x2 : Int32} {x3 : Nat} : pm_ev 116 140 [b0, b1, b2] [.int x0, .int x1, .int x2, .ref x3] w = pm_k 116 143 [b0, b1, b2] [] (pm_vc (w x3) 6 (pm_call 103 [.ref x3, .int x2, .int x1, .int x0] w)) := pm_nv pt_116 pt_103 pt_M_6_118 d116_140 ⟨rfl, rfl⟩ ⟨⟨rfl, Nat.le_of_ble_eq_true rfl, Nat.le_of_ble_eq_true rfl, Nat.le_of_ble_eq_true rfl, Nat.le_of_ble_eq_true rfl⟩, rfl⟩
theorem d116_143 : decode cX6_readGrant 143 = .ok (.ifCond .ne 5, 3) := by decide +kernel
theorem z116_143 {st : List Value} {w : pm_H} {pl : pm_L} {x0 : Int32} : pm_ev 116 143 pl (.int x0 :: st) w = if x0 = 0 then pm_ev 116 146 pl st w else pm_ev 116 148 pl st w := pm_nin (c := ¬ x0 = 0) pt_116 d116_143 rfl rfl rfl Iff.rfl
theorem d116_146 : decode cX6_readGrant 146 = .ok (.iconst 0, 1) := by decide +kernel
theorem z116_146 {st : List Value} {w : pm_H} {pl : pm_L} : pm_ev 116 146 pl st w = pm_ev 116 147 pl (.int 0 :: st) w := pm_ny pt_116 d116_146 rfl rfl rfl
theorem d116_147 : decode cX6_readGrant 147 = .ok (.ireturn, 1) := by decide +kernel
theorem z116_147 {w : pm_H} {pl : pm_L} {x0 : Int32} : pm_ev 116 147 pl [.int x0] w = pm_zr x0 w := pm_nz pt_116 d116_147
theorem d116_148 : decode cX6_readGrant 148 = .ok (.aload_n 0, 1) := by decide +kernel
theorem z116_148 {st : List Value} {w : pm_H} {b1 b2 : Option Value} {x0 : Nat} : pm_ev 116 148 [some (.ref x0), b1, b2] st w = pm_ev 116 149 [some (.ref x0), b1, b2] (.ref x0 :: st) w := pm_ny pt_116 d116_148 rfl rfl rfl
theorem d116_149 : decode cX6_readGrant 149 = .ok (.getfield 87, 3) := by decide +kernel
theorem z116_149 {st : List Value} {w : pm_H} {pl : pm_L} {x0 : Nat} : pm_ev 116 149 pl (.ref x0 :: st) w = pm_kv 116 152 pl st w (pm_gf (w x0) 6 12) := pm_ng pt_116 pt_F_6_87 d116_149
theorem d116_152 : decode cX6_readGrant 152 = .ok (.bipush 70, 2) := by decide +kernel
theorem z116_152 {st : List Value} {w : pm_H} {pl : pm_L} : pm_ev 116 152 pl st w = pm_ev 116 154 pl (.int 70 :: st) w := pm_ny pt_116 d116_152 rfl rfl rfl
theorem d116_154 : decode cX6_readGrant 154 = .ok (.dup2, 1) := by decide +kernel
theorem z116_154 {st : List Value} {w : pm_H} {pl : pm_L} {x0 : Int32} {x1 : Nat} : pm_ev 116 154 pl (.int x0 :: .ref x1 :: st) w = pm_ev 116 155 pl (.int x0 :: .ref x1 :: .int x0 :: .ref x1 :: st) w := pm_ny pt_116 d116_154 rfl rfl rfl
theorem d116_155 : decode cX6_readGrant 155 = .ok (.iaload, 1) := by decide +kernel
theorem z116_155 {st : List Value} {w : pm_H} {pl : pm_L} {x0 : Nat} {x1 : Int32} : pm_ev 116 155 pl (.int x1 :: .ref x0 :: st) w = pm_kv 116 156 pl st w (pm_ia (w x0) 0 x1) := pm_nia pt_116 d116_155
theorem d116_156 : decode cX6_readGrant 156 = .ok (.iconst 1, 1) := by decide +kernel
theorem z116_156 {st : List Value} {w : pm_H} {pl : pm_L} : pm_ev 116 156 pl st w = pm_ev 116 157 pl (.int 1 :: st) w := pm_ny pt_116 d116_156 rfl rfl rfl
theorem d116_157 : decode cX6_readGrant 157 = .ok (.iadd, 1) := by decide +kernel
theorem z116_157 {st : List Value} {w : pm_H} {pl : pm_L} {x0 x1 : Int32} : pm_ev 116 157 pl (.int x1 :: .int x0 :: st) w = pm_ev 116 158 pl (.int (x0 + x1) :: st) w := pm_ny pt_116 d116_157 rfl rfl rfl
theorem d116_158 : decode cX6_readGrant 158 = .ok (.iastore, 1) := by decide +kernel
theorem z116_158 {st : List Value} {w : pm_H} {pl : pm_L} {x0 : Nat} {x1 : Int32} {x2 : Int32} : pm_ev 116 158 pl (.int x2 :: .int x1 :: .ref x0 :: st) w = pm_kw 116 159 pl st (pm_is w x0 (w x0) x1 x2) := pm_nis pt_116 d116_158
theorem d116_159 : decode cX6_readGrant 159 = .ok (.iconst 1, 1) := by decide +kernel
theorem z116_159 {st : List Value} {w : pm_H} {pl : pm_L} : pm_ev 116 159 pl st w = pm_ev 116 160 pl (.int 1 :: st) w := pm_ny pt_116 d116_159 rfl rfl rfl
theorem d116_160 : decode cX6_readGrant 160 = .ok (.ireturn, 1) := by decide +kernel
theorem z116_160 {w : pm_H} {pl : pm_L} {x0 : Int32} : pm_ev 116 160 pl [.int x0] w = pm_zr x0 w := pm_nz pt_116 d116_160
theorem d117_0 : decode cX6_readEnd 0 = .ok (.aload_n 0, 1) := by decide +kernel
theorem z117_0 {st : List Value} {w : pm_H}  {x0 : Nat} : pm_ev 117 0 [some (.ref x0)] st w = pm_ev 117 1 [some (.ref x0)] (.ref x0 :: st) w := pm_ny pt_117 d117_0 rfl rfl rfl
theorem d117_1 : decode cX6_readEnd 1 = .ok (.getfield 27, 3) := by decide +kernel
theorem z117_1 {st : List Value} {w : pm_H} {pl : pm_L} {x0 : Nat} : pm_ev 117 1 pl (.ref x0 :: st) w = pm_kv 117 4 pl st w (pm_gf (w x0) 6 6) := pm_ng pt_117 pt_F_6_27 d117_1
theorem d117_4 : decode cX6_readEnd 4 = .ok (.iconst 4, 1) := by decide +kernel
theorem z117_4 {st : List Value} {w : pm_H} {pl : pm_L} : pm_ev 117 4 pl st w = pm_ev 117 5 pl (.int 4 :: st) w := pm_ny pt_117 d117_4 rfl rfl rfl
theorem d117_5 : decode cX6_readEnd 5 = .ok (.if_icmp .eq 9, 3) := by decide +kernel
theorem z117_5 {st : List Value} {w : pm_H} {pl : pm_L} {x0 x1 : Int32} : pm_ev 117 5 pl (.int x1 :: .int x0 :: st) w = if x0 = x1 then pm_ev 117 14 pl st w else pm_ev 117 8 pl st w := pm_nif pt_117 d117_5 rfl rfl rfl
theorem d117_8 : decode cX6_readEnd 8 = .ok (.aload_n 0, 1) := by decide +kernel
theorem z117_8 {st : List Value} {w : pm_H}  {x0 : Nat} : pm_ev 117 8 [some (.ref x0)] st w = pm_ev 117 9 [some (.ref x0)] (.ref x0 :: st) w := pm_ny pt_117 d117_8 rfl rfl rfl
theorem d117_9 : decode cX6_readEnd 9 = .ok (.iconst 1, 1) := by decide +kernel
theorem z117_9 {st : List Value} {w : pm_H} {pl : pm_L} : pm_ev 117 9 pl st w = pm_ev 117 10 pl (.int 1 :: st) w := pm_ny pt_117 d117_9 rfl rfl rfl
theorem d117_10 : decode cX6_readEnd 10 = .ok (.invokevirtual 107, 3) := by decide +kernel
theorem z117_10 {w : pm_H} {b0 : Option Value} {x0 : Int32} {x1 : Nat} : pm_ev 117 10 [b0] [.int x0, .ref x1] w = pm_k 117 13 [b0] [] (pm_vc (w x1) 6 (pm_call 102 [.ref x1, .int x0] w)) := pm_nv pt_117 pt_102 pt_M_6_107 d117_10 ⟨rfl, rfl⟩ ⟨⟨rfl, Nat.le_of_ble_eq_true rfl, Nat.le_of_ble_eq_true rfl, Nat.le_of_ble_eq_true rfl, Nat.le_of_ble_eq_true rfl⟩, rfl⟩
theorem d117_13 : decode cX6_readEnd 13 = .ok (.ireturn, 1) := by decide +kernel
theorem z117_13 {w : pm_H} {pl : pm_L} {x0 : Int32} : pm_ev 117 13 pl [.int x0] w = pm_zr x0 w := pm_nz pt_117 d117_13
theorem d117_14 : decode cX6_readEnd 14 = .ok (.aload_n 0, 1) := by decide +kernel
theorem z117_14 {st : List Value} {w : pm_H}  {x0 : Nat} : pm_ev 117 14 [some (.ref x0)] st w = pm_ev 117 15 [some (.ref x0)] (.ref x0 :: st) w := pm_ny pt_117 d117_14 rfl rfl rfl
theorem d117_15 : decode cX6_readEnd 15 = .ok (.invokevirtual 114, 3) := by decide +kernel
theorem z117_15 {w : pm_H} {b0 : Option Value} {x0 : Nat} : pm_ev 117 15 [b0] [.ref x0] w = pm_k 117 18 [b0] [] (pm_vc (w x0) 6 (pm_call 92 [.ref x0] w)) := pm_nv pt_117 pt_92 pt_M_6_114 d117_15 ⟨rfl, rfl⟩ ⟨⟨rfl, Nat.le_of_ble_eq_true rfl, Nat.le_of_ble_eq_true rfl, Nat.le_of_ble_eq_true rfl, Nat.le_of_ble_eq_true rfl⟩, rfl⟩
theorem d117_18 : decode cX6_readEnd 18 = .ok (.iconst 1, 1) := by decide +kernel
theorem z117_18 {st : List Value} {w : pm_H} {pl : pm_L} : pm_ev 117 18 pl st w = pm_ev 117 19 pl (.int 1 :: st) w := pm_ny pt_117 d117_18 rfl rfl rfl
theorem d117_19 : decode cX6_readEnd 19 = .ok (.ireturn, 1) := by decide +kernel
theorem z117_19 {w : pm_H} {pl : pm_L} {x0 : Int32} : pm_ev 117 19 pl [.int x0] w = pm_zr x0 w := pm_nz pt_117 d117_19
theorem d118_0 : decode cX6_fault 0 = .ok (.aload_n 0, 1) := by decide +kernel
theorem z118_0 {st : List Value} {w : pm_H}  {x0 : Nat} : pm_ev 118 0 [some (.ref x0)] st w = pm_ev 118 1 [some (.ref x0)] (.ref x0 :: st) w := pm_ny pt_118 d118_0 rfl rfl rfl
theorem d118_1 : decode cX6_fault 1 = .ok (.iconst 0, 1) := by decide +kernel
theorem z118_1 {st : List Value} {w : pm_H} {pl : pm_L} : pm_ev 118 1 pl st w = pm_ev 118 2 pl (.int 0 :: st) w := pm_ny pt_118 d118_1 rfl rfl rfl
theorem d118_2 : decode cX6_fault 2 = .ok (.putfield 1, 3) := by decide +kernel
theorem z118_2 {st : List Value} {w : pm_H} {pl : pm_L} {x0 : Nat} {x1 : Int32} : pm_ev 118 2 pl (.int x1 :: .ref x0 :: st) w = pm_kw 118 5 pl st (pm_pf w x0 (w x0) 6 0 0 (.int x1)) := pm_np pt_118 pt_F_6_1 d118_2
theorem d118_5 : decode cX6_fault 5 = .ok (.aload_n 0, 1) := by decide +kernel
theorem z118_5 {st : List Value} {w : pm_H}  {x0 : Nat} : pm_ev 118 5 [some (.ref x0)] st w = pm_ev 118 6 [some (.ref x0)] (.ref x0 :: st) w := pm_ny pt_118 d118_5 rfl rfl rfl
theorem d118_6 : decode cX6_fault 6 = .ok (.getfield 72, 3) := by decide +kernel
theorem z118_6 {st : List Value} {w : pm_H} {pl : pm_L} {x0 : Nat} : pm_ev 118 6 pl (.ref x0 :: st) w = pm_kv 118 9 pl st w (pm_gf (w x0) 6 8) := pm_ng pt_118 pt_F_6_72 d118_6
theorem d118_9 : decode cX6_fault 9 = .ok (.ireturn, 1) := by decide +kernel
theorem z118_9 {w : pm_H} {pl : pm_L} {x0 : Int32} : pm_ev 118 9 pl [.int x0] w = some (some (.int x0), w) := pm_nr pt_118 d118_9 rfl
theorem d119_0 : decode cX6_now 0 = .ok (.aload_n 0, 1) := by decide +kernel
theorem z119_0 {st : List Value} {w : pm_H} {b1 : Option Value} {x0 : Nat} : pm_ev 119 0 [some (.ref x0), b1] st w = pm_ev 119 1 [some (.ref x0), b1] (.ref x0 :: st) w := pm_ny pt_119 d119_0 rfl rfl rfl
theorem d119_1 : decode cX6_now 1 = .ok (.iconst 0, 1) := by decide +kernel
theorem z119_1 {st : List Value} {w : pm_H} {pl : pm_L} : pm_ev 119 1 pl st w = pm_ev 119 2 pl (.int 0 :: st) w := pm_ny pt_119 d119_1 rfl rfl rfl
theorem d119_2 : decode cX6_now 2 = .ok (.putfield 1, 3) := by decide +kernel
theorem z119_2 {st : List Value} {w : pm_H} {pl : pm_L} {x0 : Nat} {x1 : Int32} : pm_ev 119 2 pl (.int x1 :: .ref x0 :: st) w = pm_kw 119 5 pl st (pm_pf w x0 (w x0) 6 0 0 (.int x1)) := pm_np pt_119 pt_F_6_1 d119_2
theorem d119_5 : decode cX6_now 5 = .ok (.iload_n 1, 1) := by decide +kernel
theorem z119_5 {st : List Value} {w : pm_H} {b0 : Option Value} {x0 : Int32} : pm_ev 119 5 [b0, some (.int x0)] st w = pm_ev 119 6 [b0, some (.int x0)] (.int x0 :: st) w := pm_ny pt_119 d119_5 rfl rfl rfl
theorem d119_6 : decode cX6_now 6 = .ok (.tableswitch 109 0 6 #[42, 50, 58, 66, 77, 99, 104], 42) := by decide +kernel
theorem z119_6 {st : List Value} {w : pm_H} {pl : pm_L} {x0 : Int32} : pm_ev 119 6 pl (.int x0 :: st) w = if x0 = 0 then pm_ev 119 48 pl st w else if x0 = 1 then pm_ev 119 56 pl st w else if x0 = 2 then pm_ev 119 64 pl st w else if x0 = 3 then pm_ev 119 72 pl st w else if x0 = 4 then pm_ev 119 83 pl st w else if x0 = 5 then pm_ev 119 105 pl st w else if x0 = 6 then pm_ev 119 110 pl st w else pm_ev 119 115 pl st w := by
  by_cases h0 : x0 = 0
  · subst h0; exact pm_ny pt_119 d119_6 rfl rfl rfl
  by_cases h1 : x0 = 1
  · subst h1; exact pm_ny pt_119 d119_6 rfl rfl rfl
  by_cases h2 : x0 = 2
  · subst h2; exact pm_ny pt_119 d119_6 rfl rfl rfl
  by_cases h3 : x0 = 3
  · subst h3; exact pm_ny pt_119 d119_6 rfl rfl rfl
  by_cases h4 : x0 = 4
  · subst h4; exact pm_ny pt_119 d119_6 rfl rfl rfl
  by_cases h5 : x0 = 5
  · subst h5; exact pm_ny pt_119 d119_6 rfl rfl rfl
  by_cases h6 : x0 = 6
  · subst h6; exact pm_ny pt_119 d119_6 rfl rfl rfl
  rw [if_neg h0, if_neg h1, if_neg h2, if_neg h3, if_neg h4, if_neg h5, if_neg h6]
  have hx : x0.toInt < 0 ∨ 6 < x0.toInt := by
    have e0 : x0.toInt ≠ 0 := fun h => h0 (Int32.toInt_inj.mp (h.trans (by decide)))
    have e1 : x0.toInt ≠ 1 := fun h => h1 (Int32.toInt_inj.mp (h.trans (by decide)))
    have e2 : x0.toInt ≠ 2 := fun h => h2 (Int32.toInt_inj.mp (h.trans (by decide)))
    have e3 : x0.toInt ≠ 3 := fun h => h3 (Int32.toInt_inj.mp (h.trans (by decide)))
    have e4 : x0.toInt ≠ 4 := fun h => h4 (Int32.toInt_inj.mp (h.trans (by decide)))
    have e5 : x0.toInt ≠ 5 := fun h => h5 (Int32.toInt_inj.mp (h.trans (by decide)))
    have e6 : x0.toInt ≠ 6 := fun h => h6 (Int32.toInt_inj.mp (h.trans (by decide)))
    omega
  exact pm_ny (pc' := 115) (pl' := pl) (st' := st) (w' := w) pt_119 d119_6 rfl rfl (show pm_or (if x0.toInt < 0 ∨ 6 < x0.toInt then some (115, pl, st, w) else _) _ = _ by rw [if_pos hx]; rfl)
theorem d119_48 : decode cX6_now 48 = .ok (.aload_n 0, 1) := by decide +kernel
theorem z119_48 {st : List Value} {w : pm_H} {b1 : Option Value} {x0 : Nat} : pm_ev 119 48 [some (.ref x0), b1] st w = pm_ev 119 49 [some (.ref x0), b1] (.ref x0 :: st) w := pm_ny pt_119 d119_48 rfl rfl rfl
theorem d119_49 : decode cX6_now 49 = .ok (.getfield 84, 3) := by decide +kernel
theorem z119_49 {st : List Value} {w : pm_H} {pl : pm_L} {x0 : Nat} : pm_ev 119 49 pl (.ref x0 :: st) w = pm_kv 119 52 pl st w (pm_gf (w x0) 6 11) := pm_ng pt_119 pt_F_6_84 d119_49
theorem d119_52 : decode cX6_now 52 = .ok (.bipush 9, 2) := by decide +kernel
theorem z119_52 {st : List Value} {w : pm_H} {pl : pm_L} : pm_ev 119 52 pl st w = pm_ev 119 54 pl (.int 9 :: st) w := pm_ny pt_119 d119_52 rfl rfl rfl
theorem d119_54 : decode cX6_now 54 = .ok (.iaload, 1) := by decide +kernel
theorem z119_54 {st : List Value} {w : pm_H} {pl : pm_L} {x0 : Nat} {x1 : Int32} : pm_ev 119 54 pl (.int x1 :: .ref x0 :: st) w = pm_kv 119 55 pl st w (pm_ia (w x0) 0 x1) := pm_nia pt_119 d119_54
theorem d119_55 : decode cX6_now 55 = .ok (.ireturn, 1) := by decide +kernel
theorem z119_55 {w : pm_H} {pl : pm_L} {x0 : Int32} : pm_ev 119 55 pl [.int x0] w = some (some (.int x0), w) := pm_nr pt_119 d119_55 rfl
theorem d119_56 : decode cX6_now 56 = .ok (.aload_n 0, 1) := by decide +kernel
theorem z119_56 {st : List Value} {w : pm_H} {b1 : Option Value} {x0 : Nat} : pm_ev 119 56 [some (.ref x0), b1] st w = pm_ev 119 57 [some (.ref x0), b1] (.ref x0 :: st) w := pm_ny pt_119 d119_56 rfl rfl rfl
theorem d119_57 : decode cX6_now 57 = .ok (.getfield 84, 3) := by decide +kernel
theorem z119_57 {st : List Value} {w : pm_H} {pl : pm_L} {x0 : Nat} : pm_ev 119 57 pl (.ref x0 :: st) w = pm_kv 119 60 pl st w (pm_gf (w x0) 6 11) := pm_ng pt_119 pt_F_6_84 d119_57
theorem d119_60 : decode cX6_now 60 = .ok (.bipush 70, 2) := by decide +kernel
theorem z119_60 {st : List Value} {w : pm_H} {pl : pm_L} : pm_ev 119 60 pl st w = pm_ev 119 62 pl (.int 70 :: st) w := pm_ny pt_119 d119_60 rfl rfl rfl
theorem d119_62 : decode cX6_now 62 = .ok (.iaload, 1) := by decide +kernel
theorem z119_62 {st : List Value} {w : pm_H} {pl : pm_L} {x0 : Nat} {x1 : Int32} : pm_ev 119 62 pl (.int x1 :: .ref x0 :: st) w = pm_kv 119 63 pl st w (pm_ia (w x0) 0 x1) := pm_nia pt_119 d119_62
theorem d119_63 : decode cX6_now 63 = .ok (.ireturn, 1) := by decide +kernel
theorem z119_63 {w : pm_H} {pl : pm_L} {x0 : Int32} : pm_ev 119 63 pl [.int x0] w = some (some (.int x0), w) := pm_nr pt_119 d119_63 rfl
theorem d119_64 : decode cX6_now 64 = .ok (.aload_n 0, 1) := by decide +kernel
theorem z119_64 {st : List Value} {w : pm_H} {b1 : Option Value} {x0 : Nat} : pm_ev 119 64 [some (.ref x0), b1] st w = pm_ev 119 65 [some (.ref x0), b1] (.ref x0 :: st) w := pm_ny pt_119 d119_64 rfl rfl rfl
theorem d119_65 : decode cX6_now 65 = .ok (.getfield 84, 3) := by decide +kernel
theorem z119_65 {st : List Value} {w : pm_H} {pl : pm_L} {x0 : Nat} : pm_ev 119 65 pl (.ref x0 :: st) w = pm_kv 119 68 pl st w (pm_gf (w x0) 6 11) := pm_ng pt_119 pt_F_6_84 d119_65
theorem d119_68 : decode cX6_now 68 = .ok (.invokestatic 141, 3) := by decide +kernel
theorem z119_68 {w : pm_H} {b0 b1 : Option Value} {x0 : Nat} : pm_ev 119 68 [b0, b1] [.ref x0] w = pm_k 119 71 [b0, b1] [] (pm_call 111 [.ref x0] w) := pm_ns pt_119 pt_111 pt_M_6_141 (Or.inl rfl) d119_68 ⟨rfl, rfl⟩ ⟨⟨rfl, Nat.le_of_ble_eq_true rfl, Nat.le_of_ble_eq_true rfl, Nat.le_of_ble_eq_true rfl, Nat.le_of_ble_eq_true rfl⟩, rfl⟩
theorem d119_71 : decode cX6_now 71 = .ok (.ireturn, 1) := by decide +kernel
theorem z119_71 {w : pm_H} {pl : pm_L} {x0 : Int32} : pm_ev 119 71 pl [.int x0] w = some (some (.int x0), w) := pm_nr pt_119 d119_71 rfl
theorem d119_72 : decode cX6_now 72 = .ok (.aload_n 0, 1) := by decide +kernel
theorem z119_72 {st : List Value} {w : pm_H} {b1 : Option Value} {x0 : Nat} : pm_ev 119 72 [some (.ref x0), b1] st w = pm_ev 119 73 [some (.ref x0), b1] (.ref x0 :: st) w := pm_ny pt_119 d119_72 rfl rfl rfl
theorem d119_73 : decode cX6_now 73 = .ok (.getfield 84, 3) := by decide +kernel
theorem z119_73 {st : List Value} {w : pm_H} {pl : pm_L} {x0 : Nat} : pm_ev 119 73 pl (.ref x0 :: st) w = pm_kv 119 76 pl st w (pm_gf (w x0) 6 11) := pm_ng pt_119 pt_F_6_84 d119_73
theorem d119_76 : decode cX6_now 76 = .ok (.sipush 360, 3) := by decide +kernel
theorem z119_76 {st : List Value} {w : pm_H} {pl : pm_L} : pm_ev 119 76 pl st w = pm_ev 119 79 pl (.int 360 :: st) w := pm_ny pt_119 d119_76 rfl rfl rfl
theorem d119_79 : decode cX6_now 79 = .ok (.invokestatic 137, 3) := by decide +kernel
theorem z119_79 {w : pm_H} {b0 b1 : Option Value} {x0 : Int32} {x1 : Nat} : pm_ev 119 79 [b0, b1] [.int x0, .ref x1] w = pm_k 119 82 [b0, b1] [] (pm_call 115 [.ref x1, .int x0] w) := pm_ns pt_119 pt_115 pt_M_6_137 (Or.inl rfl) d119_79 ⟨rfl, rfl⟩ ⟨⟨rfl, Nat.le_of_ble_eq_true rfl, Nat.le_of_ble_eq_true rfl, Nat.le_of_ble_eq_true rfl, Nat.le_of_ble_eq_true rfl⟩, rfl⟩
theorem d119_82 : decode cX6_now 82 = .ok (.ireturn, 1) := by decide +kernel
theorem z119_82 {w : pm_H} {pl : pm_L} {x0 : Int32} : pm_ev 119 82 pl [.int x0] w = some (some (.int x0), w) := pm_nr pt_119 d119_82 rfl
theorem d119_83 : decode cX6_now 83 = .ok (.aload_n 0, 1) := by decide +kernel
theorem z119_83 {st : List Value} {w : pm_H} {b1 : Option Value} {x0 : Nat} : pm_ev 119 83 [some (.ref x0), b1] st w = pm_ev 119 84 [some (.ref x0), b1] (.ref x0 :: st) w := pm_ny pt_119 d119_83 rfl rfl rfl
theorem d119_84 : decode cX6_now 84 = .ok (.getfield 84, 3) := by decide +kernel
theorem z119_84 {st : List Value} {w : pm_H} {pl : pm_L} {x0 : Nat} : pm_ev 119 84 pl (.ref x0 :: st) w = pm_kv 119 87 pl st w (pm_gf (w x0) 6 11) := pm_ng pt_119 pt_F_6_84 d119_84
theorem d119_87 : decode cX6_now 87 = .ok (.bipush 9, 2) := by decide +kernel
theorem z119_87 {st : List Value} {w : pm_H} {pl : pm_L} : pm_ev 119 87 pl st w = pm_ev 119 89 pl (.int 9 :: st) w := pm_ny pt_119 d119_87 rfl rfl rfl
theorem d119_89 : decode cX6_now 89 = .ok (.iaload, 1) := by decide +kernel
theorem z119_89 {st : List Value} {w : pm_H} {pl : pm_L} {x0 : Nat} {x1 : Int32} : pm_ev 119 89 pl (.int x1 :: .ref x0 :: st) w = pm_kv 119 90 pl st w (pm_ia (w x0) 0 x1) := pm_nia pt_119 d119_89
theorem d119_90 : decode cX6_now 90 = .ok (.ifCond .ne 7, 3) := by decide +kernel
theorem z119_90 {st : List Value} {w : pm_H} {pl : pm_L} {x0 : Int32} : pm_ev 119 90 pl (.int x0 :: st) w = if x0 = 0 then pm_ev 119 93 pl st w else pm_ev 119 97 pl st w := pm_nin (c := ¬ x0 = 0) pt_119 d119_90 rfl rfl rfl Iff.rfl
theorem d119_93 : decode cX6_now 93 = .ok (.iconst (-1), 1) := by decide +kernel
theorem z119_93 {st : List Value} {w : pm_H} {pl : pm_L} : pm_ev 119 93 pl st w = pm_ev 119 94 pl (.int (-1) :: st) w := pm_ny pt_119 d119_93 rfl rfl rfl
theorem d119_94 : decode cX6_now 94 = .ok (.goto 10, 3) := by decide +kernel
theorem z119_94 {st : List Value} {w : pm_H} {pl : pm_L} : pm_ev 119 94 pl st w = pm_ev 119 104 pl st w := pm_ny pt_119 d119_94 rfl rfl rfl
theorem d119_97 : decode cX6_now 97 = .ok (.aload_n 0, 1) := by decide +kernel
theorem z119_97 {st : List Value} {w : pm_H} {b1 : Option Value} {x0 : Nat} : pm_ev 119 97 [some (.ref x0), b1] st w = pm_ev 119 98 [some (.ref x0), b1] (.ref x0 :: st) w := pm_ny pt_119 d119_97 rfl rfl rfl
theorem d119_98 : decode cX6_now 98 = .ok (.getfield 84, 3) := by decide +kernel
theorem z119_98 {st : List Value} {w : pm_H} {pl : pm_L} {x0 : Nat} : pm_ev 119 98 pl (.ref x0 :: st) w = pm_kv 119 101 pl st w (pm_gf (w x0) 6 11) := pm_ng pt_119 pt_F_6_84 d119_98
theorem d119_101 : decode cX6_now 101 = .ok (.invokestatic 145, 3) := by decide +kernel
theorem z119_101 {w : pm_H} {b0 b1 : Option Value} {x0 : Nat} : pm_ev 119 101 [b0, b1] [.ref x0] w = pm_k 119 104 [b0, b1] [] (pm_call 113 [.ref x0] w) := pm_ns pt_119 pt_113 pt_M_6_145 (Or.inl rfl) d119_101 ⟨rfl, rfl⟩ ⟨⟨rfl, Nat.le_of_ble_eq_true rfl, Nat.le_of_ble_eq_true rfl, Nat.le_of_ble_eq_true rfl, Nat.le_of_ble_eq_true rfl⟩, rfl⟩
theorem d119_104 : decode cX6_now 104 = .ok (.ireturn, 1) := by decide +kernel
theorem z119_104 {w : pm_H} {pl : pm_L} {x0 : Int32} : pm_ev 119 104 pl [.int x0] w = some (some (.int x0), w) := pm_nr pt_119 d119_104 rfl
theorem d119_105 : decode cX6_now 105 = .ok (.aload_n 0, 1) := by decide +kernel
theorem z119_105 {st : List Value} {w : pm_H} {b1 : Option Value} {x0 : Nat} : pm_ev 119 105 [some (.ref x0), b1] st w = pm_ev 119 106 [some (.ref x0), b1] (.ref x0 :: st) w := pm_ny pt_119 d119_105 rfl rfl rfl
theorem d119_106 : decode cX6_now 106 = .ok (.getfield 172, 3) := by decide +kernel
theorem z119_106 {st : List Value} {w : pm_H} {pl : pm_L} {x0 : Nat} : pm_ev 119 106 pl (.ref x0 :: st) w = pm_kv 119 109 pl st w (pm_gf (w x0) 6 14) := pm_ng pt_119 pt_F_6_172 d119_106
theorem d119_109 : decode cX6_now 109 = .ok (.ireturn, 1) := by decide +kernel
theorem z119_109 {w : pm_H} {pl : pm_L} {x0 : Int32} : pm_ev 119 109 pl [.int x0] w = some (some (.int x0), w) := pm_nr pt_119 d119_109 rfl
theorem d119_110 : decode cX6_now 110 = .ok (.aload_n 0, 1) := by decide +kernel
theorem z119_110 {st : List Value} {w : pm_H} {b1 : Option Value} {x0 : Nat} : pm_ev 119 110 [some (.ref x0), b1] st w = pm_ev 119 111 [some (.ref x0), b1] (.ref x0 :: st) w := pm_ny pt_119 d119_110 rfl rfl rfl
theorem d119_111 : decode cX6_now 111 = .ok (.getfield 11, 3) := by decide +kernel
theorem z119_111 {st : List Value} {w : pm_H} {pl : pm_L} {x0 : Nat} : pm_ev 119 111 pl (.ref x0 :: st) w = pm_kv 119 114 pl st w (pm_gf (w x0) 6 2) := pm_ng pt_119 pt_F_6_11 d119_111
theorem d119_114 : decode cX6_now 114 = .ok (.ireturn, 1) := by decide +kernel
theorem z119_114 {w : pm_H} {pl : pm_L} {x0 : Int32} : pm_ev 119 114 pl [.int x0] w = some (some (.int x0), w) := pm_nr pt_119 d119_114 rfl
theorem d119_115 : decode cX6_now 115 = .ok (.iconst (-1), 1) := by decide +kernel
theorem z119_115 {st : List Value} {w : pm_H} {pl : pm_L} : pm_ev 119 115 pl st w = pm_ev 119 116 pl (.int (-1) :: st) w := pm_ny pt_119 d119_115 rfl rfl rfl
theorem d119_116 : decode cX6_now 116 = .ok (.ireturn, 1) := by decide +kernel
theorem z119_116 {w : pm_H} {pl : pm_L} {x0 : Int32} : pm_ev 119 116 pl [.int x0] w = some (some (.int x0), w) := pm_nr pt_119 d119_116 rfl
theorem d120_0 : decode cX6_shares 0 = .ok (.aload_n 0, 1) := by decide +kernel
theorem z120_0 {st : List Value} {w : pm_H} {b1 b2 : Option Value} {x0 : Nat} : pm_ev 120 0 [some (.ref x0), b1, b2] st w = pm_ev 120 1 [some (.ref x0), b1, b2] (.ref x0 :: st) w := pm_ny pt_120 d120_0 rfl rfl rfl
theorem d120_1 : decode cX6_shares 1 = .ok (.iconst 0, 1) := by decide +kernel
theorem z120_1 {st : List Value} {w : pm_H} {pl : pm_L} : pm_ev 120 1 pl st w = pm_ev 120 2 pl (.int 0 :: st) w := pm_ny pt_120 d120_1 rfl rfl rfl
theorem d120_2 : decode cX6_shares 2 = .ok (.putfield 1, 3) := by decide +kernel
theorem z120_2 {st : List Value} {w : pm_H} {pl : pm_L} {x0 : Nat} {x1 : Int32} : pm_ev 120 2 pl (.int x1 :: .ref x0 :: st) w = pm_kw 120 5 pl st (pm_pf w x0 (w x0) 6 0 0 (.int x1)) := pm_np pt_120 pt_F_6_1 d120_2
theorem d120_5 : decode cX6_shares 5 = .ok (.iload_n 1, 1) := by decide +kernel
theorem z120_5 {st : List Value} {w : pm_H} {b0 b2 : Option Value} {x0 : Int32} : pm_ev 120 5 [b0, some (.int x0), b2] st w = pm_ev 120 6 [b0, some (.int x0), b2] (.int x0 :: st) w := pm_ny pt_120 d120_5 rfl rfl rfl
theorem d120_6 : decode cX6_shares 6 = .ok (.invokestatic 182, 3) := by decide +kernel
theorem z120_6 {w : pm_H} {b0 b1 b2 : Option Value} {x0 : Int32} : pm_ev 120 6 [b0, b1, b2] [.int x0] w = pm_k 120 9 [b0, b1, b2] [] (pm_call 121 [.int x0] w) := pm_ns pt_120 pt_121 pt_M_6_182 (Or.inl rfl) d120_6 ⟨rfl, rfl⟩ ⟨⟨rfl, Nat.le_of_ble_eq_true rfl, Nat.le_of_ble_eq_true rfl, Nat.le_of_ble_eq_true rfl, Nat.le_of_ble_eq_true rfl⟩, rfl⟩
theorem d120_9 : decode cX6_shares 9 = .ok (.ifCond .ne 7, 3) := by decide +kernel
theorem z120_9 {st : List Value} {w : pm_H} {pl : pm_L} {x0 : Int32} : pm_ev 120 9 pl (.int x0 :: st) w = if x0 = 0 then pm_ev 120 12 pl st w else pm_ev 120 16 pl st w := pm_nin (c := ¬ x0 = 0) pt_120 d120_9 rfl rfl rfl Iff.rfl
theorem d120_12 : decode cX6_shares 12 = .ok (.iconst (-1), 1) := by decide +kernel
theorem z120_12 {st : List Value} {w : pm_H} {pl : pm_L} : pm_ev 120 12 pl st w = pm_ev 120 13 pl (.int (-1) :: st) w := pm_ny pt_120 d120_12 rfl rfl rfl
theorem d120_13 : decode cX6_shares 13 = .ok (.goto 23, 3) := by decide +kernel
theorem z120_13 {st : List Value} {w : pm_H} {pl : pm_L} : pm_ev 120 13 pl st w = pm_ev 120 36 pl st w := pm_ny pt_120 d120_13 rfl rfl rfl
theorem d120_16 : decode cX6_shares 16 = .ok (.iload_n 2, 1) := by decide +kernel
theorem z120_16 {st : List Value} {w : pm_H} {b0 b1 : Option Value} {x0 : Int32} : pm_ev 120 16 [b0, b1, some (.int x0)] st w = pm_ev 120 17 [b0, b1, some (.int x0)] (.int x0 :: st) w := pm_ny pt_120 d120_16 rfl rfl rfl
theorem d120_17 : decode cX6_shares 17 = .ok (.ifCond .eq 11, 3) := by decide +kernel
theorem z120_17 {st : List Value} {w : pm_H} {pl : pm_L} {x0 : Int32} : pm_ev 120 17 pl (.int x0 :: st) w = if x0 = 0 then pm_ev 120 28 pl st w else pm_ev 120 20 pl st w := pm_nif pt_120 d120_17 rfl rfl rfl
theorem d120_20 : decode cX6_shares 20 = .ok (.aload_n 0, 1) := by decide +kernel
theorem z120_20 {st : List Value} {w : pm_H} {b1 b2 : Option Value} {x0 : Nat} : pm_ev 120 20 [some (.ref x0), b1, b2] st w = pm_ev 120 21 [some (.ref x0), b1, b2] (.ref x0 :: st) w := pm_ny pt_120 d120_20 rfl rfl rfl
theorem d120_21 : decode cX6_shares 21 = .ok (.iload_n 1, 1) := by decide +kernel
theorem z120_21 {st : List Value} {w : pm_H} {b0 b2 : Option Value} {x0 : Int32} : pm_ev 120 21 [b0, some (.int x0), b2] st w = pm_ev 120 22 [b0, some (.int x0), b2] (.int x0 :: st) w := pm_ny pt_120 d120_21 rfl rfl rfl
theorem d120_22 : decode cX6_shares 22 = .ok (.invokevirtual 185, 3) := by decide +kernel
theorem z120_22 {w : pm_H} {b0 b1 b2 : Option Value} {x0 : Int32} {x1 : Nat} : pm_ev 120 22 [b0, b1, b2] [.int x0, .ref x1] w = pm_k 120 25 [b0, b1, b2] [] (pm_vc (w x1) 6 (pm_call 122 [.ref x1, .int x0] w)) := pm_nv pt_120 pt_122 pt_M_6_185 d120_22 ⟨rfl, rfl⟩ ⟨⟨rfl, Nat.le_of_ble_eq_true rfl, Nat.le_of_ble_eq_true rfl, Nat.le_of_ble_eq_true rfl, Nat.le_of_ble_eq_true rfl⟩, rfl⟩
theorem d120_25 : decode cX6_shares 25 = .ok (.goto 11, 3) := by decide +kernel
theorem z120_25 {st : List Value} {w : pm_H} {pl : pm_L} : pm_ev 120 25 pl st w = pm_ev 120 36 pl st w := pm_ny pt_120 d120_25 rfl rfl rfl
theorem d120_28 : decode cX6_shares 28 = .ok (.aload_n 0, 1) := by decide +kernel
theorem z120_28 {st : List Value} {w : pm_H} {b1 b2 : Option Value} {x0 : Nat} : pm_ev 120 28 [some (.ref x0), b1, b2] st w = pm_ev 120 29 [some (.ref x0), b1, b2] (.ref x0 :: st) w := pm_ny pt_120 d120_28 rfl rfl rfl
theorem d120_29 : decode cX6_shares 29 = .ok (.getfield 84, 3) := by decide +kernel
theorem z120_29 {st : List Value} {w : pm_H} {pl : pm_L} {x0 : Nat} : pm_ev 120 29 pl (.ref x0 :: st) w = pm_kv 120 32 pl st w (pm_gf (w x0) 6 11) := pm_ng pt_120 pt_F_6_84 d120_29
theorem d120_32 : decode cX6_shares 32 = .ok (.iload_n 1, 1) := by decide +kernel
theorem z120_32 {st : List Value} {w : pm_H} {b0 b2 : Option Value} {x0 : Int32} : pm_ev 120 32 [b0, some (.int x0), b2] st w = pm_ev 120 33 [b0, some (.int x0), b2] (.int x0 :: st) w := pm_ny pt_120 d120_32 rfl rfl rfl
theorem d120_33 : decode cX6_shares 33 = .ok (.invokestatic 137, 3) := by decide +kernel
theorem z120_33 {w : pm_H} {b0 b1 b2 : Option Value} {x0 : Int32} {x1 : Nat} : pm_ev 120 33 [b0, b1, b2] [.int x0, .ref x1] w = pm_k 120 36 [b0, b1, b2] [] (pm_call 115 [.ref x1, .int x0] w) := pm_ns pt_120 pt_115 pt_M_6_137 (Or.inl rfl) d120_33 ⟨rfl, rfl⟩ ⟨⟨rfl, Nat.le_of_ble_eq_true rfl, Nat.le_of_ble_eq_true rfl, Nat.le_of_ble_eq_true rfl, Nat.le_of_ble_eq_true rfl⟩, rfl⟩
theorem d120_36 : decode cX6_shares 36 = .ok (.ireturn, 1) := by decide +kernel
theorem z120_36 {w : pm_H} {pl : pm_L} {x0 : Int32} : pm_ev 120 36 pl [.int x0] w = some (some (.int x0), w) := pm_nr pt_120 d120_36 rfl
theorem d121_0 : decode cX6_isDay 0 = .ok (.iload_n 0, 1) := by decide +kernel
theorem z121_0 {st : List Value} {w : pm_H}  {x0 : Int32} : pm_ev 121 0 [some (.int x0)] st w = pm_ev 121 1 [some (.int x0)] (.int x0 :: st) w := pm_ny pt_121 d121_0 rfl rfl rfl
theorem d121_1 : decode cX6_isDay 1 = .ok (.iconst 0, 1) := by decide +kernel
theorem z121_1 {st : List Value} {w : pm_H} {pl : pm_L} : pm_ev 121 1 pl st w = pm_ev 121 2 pl (.int 0 :: st) w := pm_ny pt_121 d121_1 rfl rfl rfl
theorem d121_2 : decode cX6_isDay 2 = .ok (.sipush 359, 3) := by decide +kernel
theorem z121_2 {st : List Value} {w : pm_H} {pl : pm_L} : pm_ev 121 2 pl st w = pm_ev 121 5 pl (.int 359 :: st) w := pm_ny pt_121 d121_2 rfl rfl rfl
theorem d121_5 : decode cX6_isDay 5 = .ok (.invokestatic 110, 3) := by decide +kernel
theorem z121_5 {w : pm_H} {b0 : Option Value} {x0 : Int32} {x1 : Int32} {x2 : Int32} : pm_ev 121 5 [b0] [.int x0, .int x1, .int x2] w = pm_k 121 8 [b0] [] (pm_call 96 [.int x2, .int x1, .int x0] w) := pm_ns pt_121 pt_96 pt_M_6_110 (Or.inl rfl) d121_5 ⟨rfl, rfl⟩ ⟨⟨rfl, Nat.le_of_ble_eq_true rfl, Nat.le_of_ble_eq_true rfl, Nat.le_of_ble_eq_true rfl, Nat.le_of_ble_eq_true rfl⟩, rfl⟩
theorem d121_8 : decode cX6_isDay 8 = .ok (.ireturn, 1) := by decide +kernel
theorem z121_8 {w : pm_H} {pl : pm_L} {x0 : Int32} : pm_ev 121 8 pl [.int x0] w = pm_zr x0 w := pm_nz pt_121 d121_8
theorem d122_0 : decode cX6_restated 0 = .ok (.aload_n 0, 1) := by decide +kernel
theorem z122_0 {st : List Value} {w : pm_H} {b1 : Option Value} {x0 : Nat} : pm_ev 122 0 [some (.ref x0), b1] st w = pm_ev 122 1 [some (.ref x0), b1] (.ref x0 :: st) w := pm_ny pt_122 d122_0 rfl rfl rfl
theorem d122_1 : decode cX6_restated 1 = .ok (.getfield 84, 3) := by decide +kernel
theorem z122_1 {st : List Value} {w : pm_H} {pl : pm_L} {x0 : Nat} : pm_ev 122 1 pl (.ref x0 :: st) w = pm_kv 122 4 pl st w (pm_gf (w x0) 6 11) := pm_ng pt_122 pt_F_6_84 d122_1
theorem d122_4 : decode cX6_restated 4 = .ok (.iload_n 1, 1) := by decide +kernel
theorem z122_4 {st : List Value} {w : pm_H} {b0 : Option Value} {x0 : Int32} : pm_ev 122 4 [b0, some (.int x0)] st w = pm_ev 122 5 [b0, some (.int x0)] (.int x0 :: st) w := pm_ny pt_122 d122_4 rfl rfl rfl
theorem d122_5 : decode cX6_restated 5 = .ok (.invokestatic 137, 3) := by decide +kernel
theorem z122_5 {w : pm_H} {b0 b1 : Option Value} {x0 : Int32} {x1 : Nat} : pm_ev 122 5 [b0, b1] [.int x0, .ref x1] w = pm_k 122 8 [b0, b1] [] (pm_call 115 [.ref x1, .int x0] w) := pm_ns pt_122 pt_115 pt_M_6_137 (Or.inl rfl) d122_5 ⟨rfl, rfl⟩ ⟨⟨rfl, Nat.le_of_ble_eq_true rfl, Nat.le_of_ble_eq_true rfl, Nat.le_of_ble_eq_true rfl, Nat.le_of_ble_eq_true rfl⟩, rfl⟩
theorem d122_8 : decode cX6_restated 8 = .ok (.aload_n 0, 1) := by decide +kernel
theorem z122_8 {st : List Value} {w : pm_H} {b1 : Option Value} {x0 : Nat} : pm_ev 122 8 [some (.ref x0), b1] st w = pm_ev 122 9 [some (.ref x0), b1] (.ref x0 :: st) w := pm_ny pt_122 d122_8 rfl rfl rfl
theorem d122_9 : decode cX6_restated 9 = .ok (.iload_n 1, 1) := by decide +kernel
theorem z122_9 {st : List Value} {w : pm_H} {b0 : Option Value} {x0 : Int32} : pm_ev 122 9 [b0, some (.int x0)] st w = pm_ev 122 10 [b0, some (.int x0)] (.int x0 :: st) w := pm_ny pt_122 d122_9 rfl rfl rfl
theorem d122_10 : decode cX6_restated 10 = .ok (.sipush 360, 3) := by decide +kernel
theorem z122_10 {st : List Value} {w : pm_H} {pl : pm_L} : pm_ev 122 10 pl st w = pm_ev 122 13 pl (.int 360 :: st) w := pm_ny pt_122 d122_10 rfl rfl rfl
theorem d122_13 : decode cX6_restated 13 = .ok (.invokevirtual 175, 3) := by decide +kernel
theorem z122_13 {w : pm_H} {b0 b1 : Option Value} {x0 : Int32} {x1 : Int32} {x2 : Nat} {x3 : Int32} : pm_ev 122 13 [b0, b1] [.int x0, .int x1, .ref x2, .int x3] w = pm_k 122 16 [b0, b1] [.int x3] (pm_vc (w x2) 6 (pm_call 123 [.ref x2, .int x1, .int x0] w)) := pm_nv pt_122 pt_123 pt_M_6_175 d122_13 ⟨rfl, rfl⟩ ⟨⟨rfl, Nat.le_of_ble_eq_true rfl, Nat.le_of_ble_eq_true rfl, Nat.le_of_ble_eq_true rfl, Nat.le_of_ble_eq_true rfl⟩, rfl⟩
theorem d122_16 : decode cX6_restated 16 = .ok (.imul, 1) := by decide +kernel
theorem z122_16 {st : List Value} {w : pm_H} {pl : pm_L} {x0 x1 : Int32} : pm_ev 122 16 pl (.int x1 :: .int x0 :: st) w = pm_ev 122 17 pl (.int (x0 * x1) :: st) w := pm_ny pt_122 d122_16 rfl rfl rfl
theorem d122_17 : decode cX6_restated 17 = .ok (.ireturn, 1) := by decide +kernel
theorem z122_17 {w : pm_H} {pl : pm_L} {x0 : Int32} : pm_ev 122 17 pl [.int x0] w = some (some (.int x0), w) := pm_nr pt_122 d122_17 rfl
theorem d123_0 : decode cX6_scale 0 = .ok (.iconst 1, 1) := by decide +kernel
theorem z123_0 {st : List Value} {w : pm_H} {pl : pm_L} : pm_ev 123 0 pl st w = pm_ev 123 1 pl (.int 1 :: st) w := pm_ny pt_123 d123_0 rfl rfl rfl
theorem d123_1 : decode cX6_scale 1 = .ok (.istore_n 3, 1) := by decide +kernel
theorem z123_1 {st : List Value} {w : pm_H} {b0 b1 b3 b4 : Option Value} {x0 : Int32} {x9 : Int32} : pm_ev 123 1 [b0, b1, some (.int x9), b3, b4] (.int x0 :: st) w = pm_ev 123 2 [b0, b1, some (.int x9), some (.int x0), b4] st w := pm_ny pt_123 d123_1 rfl rfl rfl
theorem d123_2 : decode cX6_scale 2 = .ok (.iconst 0, 1) := by decide +kernel
theorem z123_2 {st : List Value} {w : pm_H} {pl : pm_L} : pm_ev 123 2 pl st w = pm_ev 123 3 pl (.int 0 :: st) w := pm_ny pt_123 d123_2 rfl rfl rfl
theorem d123_3 : decode cX6_scale 3 = .ok (.istore 4, 2) := by decide +kernel
theorem z123_3 {st : List Value} {w : pm_H} {b0 b1 b2 b4 : Option Value} {x0 : Int32} {x9 : Int32} : pm_ev 123 3 [b0, b1, b2, some (.int x9), b4] (.int x0 :: st) w = pm_ev 123 5 [b0, b1, b2, some (.int x9), some (.int x0)] st w := pm_ny pt_123 d123_3 rfl rfl rfl
theorem d123_5 : decode cX6_scale 5 = .ok (.iload 4, 2) := by decide +kernel
theorem z123_5 {st : List Value} {w : pm_H} {b0 b1 b2 b3 : Option Value} {x0 : Int32} : pm_ev 123 5 [b0, b1, b2, b3, some (.int x0)] st w = pm_ev 123 7 [b0, b1, b2, b3, some (.int x0)] (.int x0 :: st) w := pm_ny pt_123 d123_5 rfl rfl rfl
theorem d123_7 : decode cX6_scale 7 = .ok (.aload_n 0, 1) := by decide +kernel
theorem z123_7 {st : List Value} {w : pm_H} {b1 b2 b3 b4 : Option Value} {x0 : Nat} : pm_ev 123 7 [some (.ref x0), b1, b2, b3, b4] st w = pm_ev 123 8 [some (.ref x0), b1, b2, b3, b4] (.ref x0 :: st) w := pm_ny pt_123 d123_7 rfl rfl rfl
theorem d123_8 : decode cX6_scale 8 = .ok (.getfield 84, 3) := by decide +kernel
theorem z123_8 {st : List Value} {w : pm_H} {pl : pm_L} {x0 : Nat} : pm_ev 123 8 pl (.ref x0 :: st) w = pm_kv 123 11 pl st w (pm_gf (w x0) 6 11) := pm_ng pt_123 pt_F_6_84 d123_8
theorem d123_11 : decode cX6_scale 11 = .ok (.bipush 9, 2) := by decide +kernel
theorem z123_11 {st : List Value} {w : pm_H} {pl : pm_L} : pm_ev 123 11 pl st w = pm_ev 123 13 pl (.int 9 :: st) w := pm_ny pt_123 d123_11 rfl rfl rfl
theorem d123_13 : decode cX6_scale 13 = .ok (.iaload, 1) := by decide +kernel
theorem z123_13 {st : List Value} {w : pm_H} {pl : pm_L} {x0 : Nat} {x1 : Int32} : pm_ev 123 13 pl (.int x1 :: .ref x0 :: st) w = pm_kv 123 14 pl st w (pm_ia (w x0) 0 x1) := pm_nia pt_123 d123_13
theorem d123_14 : decode cX6_scale 14 = .ok (.if_icmp .ge 56, 3) := by decide +kernel
theorem z123_14 {st : List Value} {w : pm_H} {pl : pm_L} {x0 x1 : Int32} : pm_ev 123 14 pl (.int x1 :: .int x0 :: st) w = if x0 < x1 then pm_ev 123 17 pl st w else pm_ev 123 70 pl st w := pm_nin (c := x1 ≤ x0) pt_123 d123_14 rfl rfl rfl pm_ge
theorem d123_17 : decode cX6_scale 17 = .ok (.aload_n 0, 1) := by decide +kernel
theorem z123_17 {st : List Value} {w : pm_H} {b1 b2 b3 b4 : Option Value} {x0 : Nat} : pm_ev 123 17 [some (.ref x0), b1, b2, b3, b4] st w = pm_ev 123 18 [some (.ref x0), b1, b2, b3, b4] (.ref x0 :: st) w := pm_ny pt_123 d123_17 rfl rfl rfl
theorem d123_18 : decode cX6_scale 18 = .ok (.getfield 84, 3) := by decide +kernel
theorem z123_18 {st : List Value} {w : pm_H} {pl : pm_L} {x0 : Nat} : pm_ev 123 18 pl (.ref x0 :: st) w = pm_kv 123 21 pl st w (pm_gf (w x0) 6 11) := pm_ng pt_123 pt_F_6_84 d123_18
theorem d123_21 : decode cX6_scale 21 = .ok (.iload 4, 2) := by decide +kernel
theorem z123_21 {st : List Value} {w : pm_H} {b0 b1 b2 b3 : Option Value} {x0 : Int32} : pm_ev 123 21 [b0, b1, b2, b3, some (.int x0)] st w = pm_ev 123 23 [b0, b1, b2, b3, some (.int x0)] (.int x0 :: st) w := pm_ny pt_123 d123_21 rfl rfl rfl
theorem d123_23 : decode cX6_scale 23 = .ok (.iconst 0, 1) := by decide +kernel
theorem z123_23 {st : List Value} {w : pm_H} {pl : pm_L} : pm_ev 123 23 pl st w = pm_ev 123 24 pl (.int 0 :: st) w := pm_ny pt_123 d123_23 rfl rfl rfl
theorem d123_24 : decode cX6_scale 24 = .ok (.invokestatic 134, 3) := by decide +kernel
theorem z123_24 {w : pm_H} {b0 b1 b2 b3 b4 : Option Value} {x0 : Int32} {x1 : Int32} {x2 : Nat} : pm_ev 123 24 [b0, b1, b2, b3, b4] [.int x0, .int x1, .ref x2] w = pm_k 123 27 [b0, b1, b2, b3, b4] [] (pm_call 112 [.ref x2, .int x1, .int x0] w) := pm_ns pt_123 pt_112 pt_M_6_134 (Or.inl rfl) d123_24 ⟨rfl, rfl⟩ ⟨⟨rfl, Nat.le_of_ble_eq_true rfl, Nat.le_of_ble_eq_true rfl, Nat.le_of_ble_eq_true rfl, Nat.le_of_ble_eq_true rfl⟩, rfl⟩
theorem d123_27 : decode cX6_scale 27 = .ok (.iconst 2, 1) := by decide +kernel
theorem z123_27 {st : List Value} {w : pm_H} {pl : pm_L} : pm_ev 123 27 pl st w = pm_ev 123 28 pl (.int 2 :: st) w := pm_ny pt_123 d123_27 rfl rfl rfl
theorem d123_28 : decode cX6_scale 28 = .ok (.if_icmp .ne 36, 3) := by decide +kernel
theorem z123_28 {st : List Value} {w : pm_H} {pl : pm_L} {x0 x1 : Int32} : pm_ev 123 28 pl (.int x1 :: .int x0 :: st) w = if x0 = x1 then pm_ev 123 31 pl st w else pm_ev 123 64 pl st w := pm_nin (c := ¬ x0 = x1) pt_123 d123_28 rfl rfl rfl Iff.rfl
theorem d123_31 : decode cX6_scale 31 = .ok (.aload_n 0, 1) := by decide +kernel
theorem z123_31 {st : List Value} {w : pm_H} {b1 b2 b3 b4 : Option Value} {x0 : Nat} : pm_ev 123 31 [some (.ref x0), b1, b2, b3, b4] st w = pm_ev 123 32 [some (.ref x0), b1, b2, b3, b4] (.ref x0 :: st) w := pm_ny pt_123 d123_31 rfl rfl rfl
theorem d123_32 : decode cX6_scale 32 = .ok (.getfield 84, 3) := by decide +kernel
theorem z123_32 {st : List Value} {w : pm_H} {pl : pm_L} {x0 : Nat} : pm_ev 123 32 pl (.ref x0 :: st) w = pm_kv 123 35 pl st w (pm_gf (w x0) 6 11) := pm_ng pt_123 pt_F_6_84 d123_32
theorem d123_35 : decode cX6_scale 35 = .ok (.iload 4, 2) := by decide +kernel
theorem z123_35 {st : List Value} {w : pm_H} {b0 b1 b2 b3 : Option Value} {x0 : Int32} : pm_ev 123 35 [b0, b1, b2, b3, some (.int x0)] st w = pm_ev 123 37 [b0, b1, b2, b3, some (.int x0)] (.int x0 :: st) w := pm_ny pt_123 d123_35 rfl rfl rfl
theorem d123_37 : decode cX6_scale 37 = .ok (.iconst 1, 1) := by decide +kernel
theorem z123_37 {st : List Value} {w : pm_H} {pl : pm_L} : pm_ev 123 37 pl st w = pm_ev 123 38 pl (.int 1 :: st) w := pm_ny pt_123 d123_37 rfl rfl rfl
theorem d123_38 : decode cX6_scale 38 = .ok (.invokestatic 134, 3) := by decide +kernel
theorem z123_38 {w : pm_H} {b0 b1 b2 b3 b4 : Option Value} {x0 : Int32} {x1 : Int32} {x2 : Nat} : pm_ev 123 38 [b0, b1, b2, b3, b4] [.int x0, .int x1, .ref x2] w = pm_k 123 41 [b0, b1, b2, b3, b4] [] (pm_call 112 [.ref x2, .int x1, .int x0] w) := pm_ns pt_123 pt_112 pt_M_6_134 (Or.inl rfl) d123_38 ⟨rfl, rfl⟩ ⟨⟨rfl, Nat.le_of_ble_eq_true rfl, Nat.le_of_ble_eq_true rfl, Nat.le_of_ble_eq_true rfl, Nat.le_of_ble_eq_true rfl⟩, rfl⟩
theorem d123_41 : decode cX6_scale 41 = .ok (.iload_n 1, 1) := by decide +kernel
theorem z123_41 {st : List Value} {w : pm_H} {b0 b2 b3 b4 : Option Value} {x0 : Int32} : pm_ev 123 41 [b0, some (.int x0), b2, b3, b4] st w = pm_ev 123 42 [b0, some (.int x0), b2, b3, b4] (.int x0 :: st) w := pm_ny pt_123 d123_41 rfl rfl rfl
theorem d123_42 : decode cX6_scale 42 = .ok (.iconst 1, 1) := by decide +kernel
theorem z123_42 {st : List Value} {w : pm_H} {pl : pm_L} : pm_ev 123 42 pl st w = pm_ev 123 43 pl (.int 1 :: st) w := pm_ny pt_123 d123_42 rfl rfl rfl
theorem d123_43 : decode cX6_scale 43 = .ok (.iadd, 1) := by decide +kernel
theorem z123_43 {st : List Value} {w : pm_H} {pl : pm_L} {x0 x1 : Int32} : pm_ev 123 43 pl (.int x1 :: .int x0 :: st) w = pm_ev 123 44 pl (.int (x0 + x1) :: st) w := pm_ny pt_123 d123_43 rfl rfl rfl
theorem d123_44 : decode cX6_scale 44 = .ok (.iload_n 2, 1) := by decide +kernel
theorem z123_44 {st : List Value} {w : pm_H} {b0 b1 b3 b4 : Option Value} {x0 : Int32} : pm_ev 123 44 [b0, b1, some (.int x0), b3, b4] st w = pm_ev 123 45 [b0, b1, some (.int x0), b3, b4] (.int x0 :: st) w := pm_ny pt_123 d123_44 rfl rfl rfl
theorem d123_45 : decode cX6_scale 45 = .ok (.invokestatic 110, 3) := by decide +kernel
theorem z123_45 {w : pm_H} {b0 b1 b2 b3 b4 : Option Value} {x0 : Int32} {x1 : Int32} {x2 : Int32} : pm_ev 123 45 [b0, b1, b2, b3, b4] [.int x0, .int x1, .int x2] w = pm_k 123 48 [b0, b1, b2, b3, b4] [] (pm_call 96 [.int x2, .int x1, .int x0] w) := pm_ns pt_123 pt_96 pt_M_6_110 (Or.inl rfl) d123_45 ⟨rfl, rfl⟩ ⟨⟨rfl, Nat.le_of_ble_eq_true rfl, Nat.le_of_ble_eq_true rfl, Nat.le_of_ble_eq_true rfl, Nat.le_of_ble_eq_true rfl⟩, rfl⟩
theorem d123_48 : decode cX6_scale 48 = .ok (.ifCond .eq 16, 3) := by decide +kernel
theorem z123_48 {st : List Value} {w : pm_H} {pl : pm_L} {x0 : Int32} : pm_ev 123 48 pl (.int x0 :: st) w = if x0 = 0 then pm_ev 123 64 pl st w else pm_ev 123 51 pl st w := pm_nif pt_123 d123_48 rfl rfl rfl
theorem d123_51 : decode cX6_scale 51 = .ok (.iload_n 3, 1) := by decide +kernel
theorem z123_51 {st : List Value} {w : pm_H} {b0 b1 b2 b4 : Option Value} {x0 : Int32} : pm_ev 123 51 [b0, b1, b2, some (.int x0), b4] st w = pm_ev 123 52 [b0, b1, b2, some (.int x0), b4] (.int x0 :: st) w := pm_ny pt_123 d123_51 rfl rfl rfl
theorem d123_52 : decode cX6_scale 52 = .ok (.aload_n 0, 1) := by decide +kernel
theorem z123_52 {st : List Value} {w : pm_H} {b1 b2 b3 b4 : Option Value} {x0 : Nat} : pm_ev 123 52 [some (.ref x0), b1, b2, b3, b4] st w = pm_ev 123 53 [some (.ref x0), b1, b2, b3, b4] (.ref x0 :: st) w := pm_ny pt_123 d123_52 rfl rfl rfl
theorem d123_53 : decode cX6_scale 53 = .ok (.getfield 84, 3) := by decide +kernel
theorem z123_53 {st : List Value} {w : pm_H} {pl : pm_L} {x0 : Nat} : pm_ev 123 53 pl (.ref x0 :: st) w = pm_kv 123 56 pl st w (pm_gf (w x0) 6 11) := pm_ng pt_123 pt_F_6_84 d123_53
theorem d123_56 : decode cX6_scale 56 = .ok (.iload 4, 2) := by decide +kernel
theorem z123_56 {st : List Value} {w : pm_H} {b0 b1 b2 b3 : Option Value} {x0 : Int32} : pm_ev 123 56 [b0, b1, b2, b3, some (.int x0)] st w = pm_ev 123 58 [b0, b1, b2, b3, some (.int x0)] (.int x0 :: st) w := pm_ny pt_123 d123_56 rfl rfl rfl
theorem d123_58 : decode cX6_scale 58 = .ok (.iconst 2, 1) := by decide +kernel
theorem z123_58 {st : List Value} {w : pm_H} {pl : pm_L} : pm_ev 123 58 pl st w = pm_ev 123 59 pl (.int 2 :: st) w := pm_ny pt_123 d123_58 rfl rfl rfl
theorem d123_59 : decode cX6_scale 59 = .ok (.invokestatic 134, 3) := by decide +kernel
theorem z123_59 {w : pm_H} {b0 b1 b2 b3 b4 : Option Value} {x0 : Int32} {x1 : Int32} {x2 : Nat} {x3 : Int32} : pm_ev 123 59 [b0, b1, b2, b3, b4] [.int x0, .int x1, .ref x2, .int x3] w = pm_k 123 62 [b0, b1, b2, b3, b4] [.int x3] (pm_call 112 [.ref x2, .int x1, .int x0] w) := pm_ns pt_123 pt_112 pt_M_6_134 (Or.inl rfl) d123_59 ⟨rfl, rfl⟩ ⟨⟨rfl, Nat.le_of_ble_eq_true rfl, Nat.le_of_ble_eq_true rfl, Nat.le_of_ble_eq_true rfl, Nat.le_of_ble_eq_true rfl⟩, rfl⟩
theorem d123_62 : decode cX6_scale 62 = .ok (.imul, 1) := by decide +kernel
theorem z123_62 {st : List Value} {w : pm_H} {pl : pm_L} {x0 x1 : Int32} : pm_ev 123 62 pl (.int x1 :: .int x0 :: st) w = pm_ev 123 63 pl (.int (x0 * x1) :: st) w := pm_ny pt_123 d123_62 rfl rfl rfl
theorem d123_63 : decode cX6_scale 63 = .ok (.istore_n 3, 1) := by decide +kernel
theorem z123_63 {st : List Value} {w : pm_H} {b0 b1 b3 b4 : Option Value} {x0 : Int32} {x9 : Int32} : pm_ev 123 63 [b0, b1, some (.int x9), b3, b4] (.int x0 :: st) w = pm_ev 123 64 [b0, b1, some (.int x9), some (.int x0), b4] st w := pm_ny pt_123 d123_63 rfl rfl rfl
theorem d123_64 : decode cX6_scale 64 = .ok (.iinc 4 1, 3) := by decide +kernel
theorem z123_64 {st : List Value} {w : pm_H} {b0 b1 b2 : Option Value} {x0 : Int32} {x9 : Int32} : pm_ev 123 64 [b0, b1, b2, some (.int x9), some (.int x0)] st w = pm_ev 123 67 [b0, b1, b2, some (.int x9), some (.int (x0 + 1))] st w := pm_ny pt_123 d123_64 rfl rfl rfl
theorem d123_67 : decode cX6_scale 67 = .ok (.goto (-62), 3) := by decide +kernel
theorem z123_67 {st : List Value} {w : pm_H} {pl : pm_L} : pm_ev 123 67 pl st w = pm_ev 123 5 pl st w := pm_ny pt_123 d123_67 rfl rfl rfl
theorem d123_70 : decode cX6_scale 70 = .ok (.iload_n 3, 1) := by decide +kernel
theorem z123_70 {st : List Value} {w : pm_H} {b0 b1 b2 b4 : Option Value} {x0 : Int32} : pm_ev 123 70 [b0, b1, b2, some (.int x0), b4] st w = pm_ev 123 71 [b0, b1, b2, some (.int x0), b4] (.int x0 :: st) w := pm_ny pt_123 d123_70 rfl rfl rfl
theorem d123_71 : decode cX6_scale 71 = .ok (.ireturn, 1) := by decide +kernel
theorem z123_71 {w : pm_H} {pl : pm_L} {x0 : Int32} : pm_ev 123 71 pl [.int x0] w = some (some (.int x0), w) := pm_nr pt_123 d123_71 rfl
theorem d124_0 : decode cX6_quarter 0 = .ok (.aload_n 0, 1) := by decide +kernel
theorem z124_0 {st : List Value} {w : pm_H} {b1 b2 : Option Value} {x0 : Nat} : pm_ev 124 0 [some (.ref x0), b1, b2] st w = pm_ev 124 1 [some (.ref x0), b1, b2] (.ref x0 :: st) w := pm_ny pt_124 d124_0 rfl rfl rfl
theorem d124_1 : decode cX6_quarter 1 = .ok (.iconst 0, 1) := by decide +kernel
theorem z124_1 {st : List Value} {w : pm_H} {pl : pm_L} : pm_ev 124 1 pl st w = pm_ev 124 2 pl (.int 0 :: st) w := pm_ny pt_124 d124_1 rfl rfl rfl
theorem d124_2 : decode cX6_quarter 2 = .ok (.putfield 1, 3) := by decide +kernel
theorem z124_2 {st : List Value} {w : pm_H} {pl : pm_L} {x0 : Nat} {x1 : Int32} : pm_ev 124 2 pl (.int x1 :: .ref x0 :: st) w = pm_kw 124 5 pl st (pm_pf w x0 (w x0) 6 0 0 (.int x1)) := pm_np pt_124 pt_F_6_1 d124_2
theorem d124_5 : decode cX6_quarter 5 = .ok (.iload_n 1, 1) := by decide +kernel
theorem z124_5 {st : List Value} {w : pm_H} {b0 b2 : Option Value} {x0 : Int32} : pm_ev 124 5 [b0, some (.int x0), b2] st w = pm_ev 124 6 [b0, some (.int x0), b2] (.int x0 :: st) w := pm_ny pt_124 d124_5 rfl rfl rfl
theorem d124_6 : decode cX6_quarter 6 = .ok (.invokestatic 188, 3) := by decide +kernel
theorem z124_6 {w : pm_H} {b0 b1 b2 : Option Value} {x0 : Int32} : pm_ev 124 6 [b0, b1, b2] [.int x0] w = pm_k 124 9 [b0, b1, b2] [] (pm_call 125 [.int x0] w) := pm_ns pt_124 pt_125 pt_M_6_188 (Or.inl rfl) d124_6 ⟨rfl, rfl⟩ ⟨⟨rfl, Nat.le_of_ble_eq_true rfl, Nat.le_of_ble_eq_true rfl, Nat.le_of_ble_eq_true rfl, Nat.le_of_ble_eq_true rfl⟩, rfl⟩
theorem d124_9 : decode cX6_quarter 9 = .ok (.ifCond .eq 27, 3) := by decide +kernel
theorem z124_9 {st : List Value} {w : pm_H} {pl : pm_L} {x0 : Int32} : pm_ev 124 9 pl (.int x0 :: st) w = if x0 = 0 then pm_ev 124 36 pl st w else pm_ev 124 12 pl st w := pm_nif pt_124 d124_9 rfl rfl rfl
theorem d124_12 : decode cX6_quarter 12 = .ok (.iload_n 2, 1) := by decide +kernel
theorem z124_12 {st : List Value} {w : pm_H} {b0 b1 : Option Value} {x0 : Int32} : pm_ev 124 12 [b0, b1, some (.int x0)] st w = pm_ev 124 13 [b0, b1, some (.int x0)] (.int x0 :: st) w := pm_ny pt_124 d124_12 rfl rfl rfl
theorem d124_13 : decode cX6_quarter 13 = .ok (.iconst 0, 1) := by decide +kernel
theorem z124_13 {st : List Value} {w : pm_H} {pl : pm_L} : pm_ev 124 13 pl st w = pm_ev 124 14 pl (.int 0 :: st) w := pm_ny pt_124 d124_13 rfl rfl rfl
theorem d124_14 : decode cX6_quarter 14 = .ok (.iconst 1, 1) := by decide +kernel
theorem z124_14 {st : List Value} {w : pm_H} {pl : pm_L} : pm_ev 124 14 pl st w = pm_ev 124 15 pl (.int 1 :: st) w := pm_ny pt_124 d124_14 rfl rfl rfl
theorem d124_15 : decode cX6_quarter 15 = .ok (.invokestatic 110, 3) := by decide +kernel
theorem z124_15 {w : pm_H} {b0 b1 b2 : Option Value} {x0 : Int32} {x1 : Int32} {x2 : Int32} : pm_ev 124 15 [b0, b1, b2] [.int x0, .int x1, .int x2] w = pm_k 124 18 [b0, b1, b2] [] (pm_call 96 [.int x2, .int x1, .int x0] w) := pm_ns pt_124 pt_96 pt_M_6_110 (Or.inl rfl) d124_15 ⟨rfl, rfl⟩ ⟨⟨rfl, Nat.le_of_ble_eq_true rfl, Nat.le_of_ble_eq_true rfl, Nat.le_of_ble_eq_true rfl, Nat.le_of_ble_eq_true rfl⟩, rfl⟩
theorem d124_18 : decode cX6_quarter 18 = .ok (.ifCond .eq 18, 3) := by decide +kernel
theorem z124_18 {st : List Value} {w : pm_H} {pl : pm_L} {x0 : Int32} : pm_ev 124 18 pl (.int x0 :: st) w = if x0 = 0 then pm_ev 124 36 pl st w else pm_ev 124 21 pl st w := pm_nif pt_124 d124_18 rfl rfl rfl
theorem d124_21 : decode cX6_quarter 21 = .ok (.aload_n 0, 1) := by decide +kernel
theorem z124_21 {st : List Value} {w : pm_H} {b1 b2 : Option Value} {x0 : Nat} : pm_ev 124 21 [some (.ref x0), b1, b2] st w = pm_ev 124 22 [some (.ref x0), b1, b2] (.ref x0 :: st) w := pm_ny pt_124 d124_21 rfl rfl rfl
theorem d124_22 : decode cX6_quarter 22 = .ok (.getfield 84, 3) := by decide +kernel
theorem z124_22 {st : List Value} {w : pm_H} {pl : pm_L} {x0 : Nat} : pm_ev 124 22 pl (.ref x0 :: st) w = pm_kv 124 25 pl st w (pm_gf (w x0) 6 11) := pm_ng pt_124 pt_F_6_84 d124_22
theorem d124_25 : decode cX6_quarter 25 = .ok (.iconst 1, 1) := by decide +kernel
theorem z124_25 {st : List Value} {w : pm_H} {pl : pm_L} : pm_ev 124 25 pl st w = pm_ev 124 26 pl (.int 1 :: st) w := pm_ny pt_124 d124_25 rfl rfl rfl
theorem d124_26 : decode cX6_quarter 26 = .ok (.iconst 2, 1) := by decide +kernel
theorem z124_26 {st : List Value} {w : pm_H} {pl : pm_L} : pm_ev 124 26 pl st w = pm_ev 124 27 pl (.int 2 :: st) w := pm_ny pt_124 d124_26 rfl rfl rfl
theorem d124_27 : decode cX6_quarter 27 = .ok (.iload_n 1, 1) := by decide +kernel
theorem z124_27 {st : List Value} {w : pm_H} {b0 b2 : Option Value} {x0 : Int32} : pm_ev 124 27 [b0, some (.int x0), b2] st w = pm_ev 124 28 [b0, some (.int x0), b2] (.int x0 :: st) w := pm_ny pt_124 d124_27 rfl rfl rfl
theorem d124_28 : decode cX6_quarter 28 = .ok (.imul, 1) := by decide +kernel
theorem z124_28 {st : List Value} {w : pm_H} {pl : pm_L} {x0 x1 : Int32} : pm_ev 124 28 pl (.int x1 :: .int x0 :: st) w = pm_ev 124 29 pl (.int (x0 * x1) :: st) w := pm_ny pt_124 d124_28 rfl rfl rfl
theorem d124_29 : decode cX6_quarter 29 = .ok (.iadd, 1) := by decide +kernel
theorem z124_29 {st : List Value} {w : pm_H} {pl : pm_L} {x0 x1 : Int32} : pm_ev 124 29 pl (.int x1 :: .int x0 :: st) w = pm_ev 124 30 pl (.int (x0 + x1) :: st) w := pm_ny pt_124 d124_29 rfl rfl rfl
theorem d124_30 : decode cX6_quarter 30 = .ok (.iload_n 2, 1) := by decide +kernel
theorem z124_30 {st : List Value} {w : pm_H} {b0 b1 : Option Value} {x0 : Int32} : pm_ev 124 30 [b0, b1, some (.int x0)] st w = pm_ev 124 31 [b0, b1, some (.int x0)] (.int x0 :: st) w := pm_ny pt_124 d124_30 rfl rfl rfl
theorem d124_31 : decode cX6_quarter 31 = .ok (.iadd, 1) := by decide +kernel
theorem z124_31 {st : List Value} {w : pm_H} {pl : pm_L} {x0 x1 : Int32} : pm_ev 124 31 pl (.int x1 :: .int x0 :: st) w = pm_ev 124 32 pl (.int (x0 + x1) :: st) w := pm_ny pt_124 d124_31 rfl rfl rfl
theorem d124_32 : decode cX6_quarter 32 = .ok (.iaload, 1) := by decide +kernel
theorem z124_32 {st : List Value} {w : pm_H} {pl : pm_L} {x0 : Nat} {x1 : Int32} : pm_ev 124 32 pl (.int x1 :: .ref x0 :: st) w = pm_kv 124 33 pl st w (pm_ia (w x0) 0 x1) := pm_nia pt_124 d124_32
theorem d124_33 : decode cX6_quarter 33 = .ok (.goto 7, 3) := by decide +kernel
theorem z124_33 {st : List Value} {w : pm_H} {pl : pm_L} : pm_ev 124 33 pl st w = pm_ev 124 40 pl st w := pm_ny pt_124 d124_33 rfl rfl rfl
theorem d124_36 : decode cX6_quarter 36 = .ok (.aload_n 0, 1) := by decide +kernel
theorem z124_36 {st : List Value} {w : pm_H} {b1 b2 : Option Value} {x0 : Nat} : pm_ev 124 36 [some (.ref x0), b1, b2] st w = pm_ev 124 37 [some (.ref x0), b1, b2] (.ref x0 :: st) w := pm_ny pt_124 d124_36 rfl rfl rfl
theorem d124_37 : decode cX6_quarter 37 = .ok (.invokevirtual 191, 3) := by decide +kernel
theorem z124_37 {w : pm_H} {b0 b1 b2 : Option Value} {x0 : Nat} : pm_ev 124 37 [b0, b1, b2] [.ref x0] w = pm_k 124 40 [b0, b1, b2] [] (pm_vc (w x0) 6 (pm_call 126 [.ref x0] w)) := pm_nv pt_124 pt_126 pt_M_6_191 d124_37 ⟨rfl, rfl⟩ ⟨⟨rfl, Nat.le_of_ble_eq_true rfl, Nat.le_of_ble_eq_true rfl, Nat.le_of_ble_eq_true rfl, Nat.le_of_ble_eq_true rfl⟩, rfl⟩
theorem d124_40 : decode cX6_quarter 40 = .ok (.ireturn, 1) := by decide +kernel
theorem z124_40 {w : pm_H} {pl : pm_L} {x0 : Int32} : pm_ev 124 40 pl [.int x0] w = some (some (.int x0), w) := pm_nr pt_124 d124_40 rfl
theorem d125_0 : decode cX6_isQuarter 0 = .ok (.iload_n 0, 1) := by decide +kernel
theorem z125_0 {st : List Value} {w : pm_H}  {x0 : Int32} : pm_ev 125 0 [some (.int x0)] st w = pm_ev 125 1 [some (.int x0)] (.int x0 :: st) w := pm_ny pt_125 d125_0 rfl rfl rfl
theorem d125_1 : decode cX6_isQuarter 1 = .ok (.iconst 0, 1) := by decide +kernel
theorem z125_1 {st : List Value} {w : pm_H} {pl : pm_L} : pm_ev 125 1 pl st w = pm_ev 125 2 pl (.int 0 :: st) w := pm_ny pt_125 d125_1 rfl rfl rfl
theorem d125_2 : decode cX6_isQuarter 2 = .ok (.iconst 3, 1) := by decide +kernel
theorem z125_2 {st : List Value} {w : pm_H} {pl : pm_L} : pm_ev 125 2 pl st w = pm_ev 125 3 pl (.int 3 :: st) w := pm_ny pt_125 d125_2 rfl rfl rfl
theorem d125_3 : decode cX6_isQuarter 3 = .ok (.invokestatic 110, 3) := by decide +kernel
theorem z125_3 {w : pm_H} {b0 : Option Value} {x0 : Int32} {x1 : Int32} {x2 : Int32} : pm_ev 125 3 [b0] [.int x0, .int x1, .int x2] w = pm_k 125 6 [b0] [] (pm_call 96 [.int x2, .int x1, .int x0] w) := pm_ns pt_125 pt_96 pt_M_6_110 (Or.inl rfl) d125_3 ⟨rfl, rfl⟩ ⟨⟨rfl, Nat.le_of_ble_eq_true rfl, Nat.le_of_ble_eq_true rfl, Nat.le_of_ble_eq_true rfl, Nat.le_of_ble_eq_true rfl⟩, rfl⟩
theorem d125_6 : decode cX6_isQuarter 6 = .ok (.ireturn, 1) := by decide +kernel
theorem z125_6 {w : pm_H} {pl : pm_L} {x0 : Int32} : pm_ev 125 6 pl [.int x0] w = pm_zr x0 w := pm_nz pt_125 d125_6
theorem d126_0 : decode cX6_refuse 0 = .ok (.aload_n 0, 1) := by decide +kernel
theorem z126_0 {st : List Value} {w : pm_H}  {x0 : Nat} : pm_ev 126 0 [some (.ref x0)] st w = pm_ev 126 1 [some (.ref x0)] (.ref x0 :: st) w := pm_ny pt_126 d126_0 rfl rfl rfl
theorem d126_1 : decode cX6_refuse 1 = .ok (.iconst 1, 1) := by decide +kernel
theorem z126_1 {st : List Value} {w : pm_H} {pl : pm_L} : pm_ev 126 1 pl st w = pm_ev 126 2 pl (.int 1 :: st) w := pm_ny pt_126 d126_1 rfl rfl rfl
theorem d126_2 : decode cX6_refuse 2 = .ok (.putfield 1, 3) := by decide +kernel
theorem z126_2 {st : List Value} {w : pm_H} {pl : pm_L} {x0 : Nat} {x1 : Int32} : pm_ev 126 2 pl (.int x1 :: .ref x0 :: st) w = pm_kw 126 5 pl st (pm_pf w x0 (w x0) 6 0 0 (.int x1)) := pm_np pt_126 pt_F_6_1 d126_2
theorem d126_5 : decode cX6_refuse 5 = .ok (.iconst 0, 1) := by decide +kernel
theorem z126_5 {st : List Value} {w : pm_H} {pl : pm_L} : pm_ev 126 5 pl st w = pm_ev 126 6 pl (.int 0 :: st) w := pm_ny pt_126 d126_5 rfl rfl rfl
theorem d126_6 : decode cX6_refuse 6 = .ok (.ireturn, 1) := by decide +kernel
theorem z126_6 {w : pm_H} {pl : pm_L} {x0 : Int32} : pm_ev 126 6 pl [.int x0] w = some (some (.int x0), w) := pm_nr pt_126 d126_6 rfl
theorem d127_0 : decode cX6_event 0 = .ok (.aload_n 0, 1) := by decide +kernel
theorem z127_0 {st : List Value} {w : pm_H} {b1 b2 : Option Value} {x0 : Nat} : pm_ev 127 0 [some (.ref x0), b1, b2] st w = pm_ev 127 1 [some (.ref x0), b1, b2] (.ref x0 :: st) w := pm_ny pt_127 d127_0 rfl rfl rfl
theorem d127_1 : decode cX6_event 1 = .ok (.iconst 0, 1) := by decide +kernel
theorem z127_1 {st : List Value} {w : pm_H} {pl : pm_L} : pm_ev 127 1 pl st w = pm_ev 127 2 pl (.int 0 :: st) w := pm_ny pt_127 d127_1 rfl rfl rfl
theorem d127_2 : decode cX6_event 2 = .ok (.putfield 1, 3) := by decide +kernel
theorem z127_2 {st : List Value} {w : pm_H} {pl : pm_L} {x0 : Nat} {x1 : Int32} : pm_ev 127 2 pl (.int x1 :: .ref x0 :: st) w = pm_kw 127 5 pl st (pm_pf w x0 (w x0) 6 0 0 (.int x1)) := pm_np pt_127 pt_F_6_1 d127_2
theorem d127_5 : decode cX6_event 5 = .ok (.iload_n 1, 1) := by decide +kernel
theorem z127_5 {st : List Value} {w : pm_H} {b0 b2 : Option Value} {x0 : Int32} : pm_ev 127 5 [b0, some (.int x0), b2] st w = pm_ev 127 6 [b0, some (.int x0), b2] (.int x0 :: st) w := pm_ny pt_127 d127_5 rfl rfl rfl
theorem d127_6 : decode cX6_event 6 = .ok (.iconst 0, 1) := by decide +kernel
theorem z127_6 {st : List Value} {w : pm_H} {pl : pm_L} : pm_ev 127 6 pl st w = pm_ev 127 7 pl (.int 0 :: st) w := pm_ny pt_127 d127_6 rfl rfl rfl
theorem d127_7 : decode cX6_event 7 = .ok (.aload_n 0, 1) := by decide +kernel
theorem z127_7 {st : List Value} {w : pm_H} {b1 b2 : Option Value} {x0 : Nat} : pm_ev 127 7 [some (.ref x0), b1, b2] st w = pm_ev 127 8 [some (.ref x0), b1, b2] (.ref x0 :: st) w := pm_ny pt_127 d127_7 rfl rfl rfl
theorem d127_8 : decode cX6_event 8 = .ok (.getfield 84, 3) := by decide +kernel
theorem z127_8 {st : List Value} {w : pm_H} {pl : pm_L} {x0 : Nat} : pm_ev 127 8 pl (.ref x0 :: st) w = pm_kv 127 11 pl st w (pm_gf (w x0) 6 11) := pm_ng pt_127 pt_F_6_84 d127_8
theorem d127_11 : decode cX6_event 11 = .ok (.bipush 9, 2) := by decide +kernel
theorem z127_11 {st : List Value} {w : pm_H} {pl : pm_L} : pm_ev 127 11 pl st w = pm_ev 127 13 pl (.int 9 :: st) w := pm_ny pt_127 d127_11 rfl rfl rfl
theorem d127_13 : decode cX6_event 13 = .ok (.iaload, 1) := by decide +kernel
theorem z127_13 {st : List Value} {w : pm_H} {pl : pm_L} {x0 : Nat} {x1 : Int32} : pm_ev 127 13 pl (.int x1 :: .ref x0 :: st) w = pm_kv 127 14 pl st w (pm_ia (w x0) 0 x1) := pm_nia pt_127 d127_13
theorem d127_14 : decode cX6_event 14 = .ok (.iconst 1, 1) := by decide +kernel
theorem z127_14 {st : List Value} {w : pm_H} {pl : pm_L} : pm_ev 127 14 pl st w = pm_ev 127 15 pl (.int 1 :: st) w := pm_ny pt_127 d127_14 rfl rfl rfl
theorem d127_15 : decode cX6_event 15 = .ok (.isub, 1) := by decide +kernel
theorem z127_15 {st : List Value} {w : pm_H} {pl : pm_L} {x0 x1 : Int32} : pm_ev 127 15 pl (.int x1 :: .int x0 :: st) w = pm_ev 127 16 pl (.int (x0 - x1) :: st) w := pm_ny pt_127 d127_15 rfl rfl rfl
theorem d127_16 : decode cX6_event 16 = .ok (.invokestatic 110, 3) := by decide +kernel
theorem z127_16 {w : pm_H} {b0 b1 b2 : Option Value} {x0 : Int32} {x1 : Int32} {x2 : Int32} : pm_ev 127 16 [b0, b1, b2] [.int x0, .int x1, .int x2] w = pm_k 127 19 [b0, b1, b2] [] (pm_call 96 [.int x2, .int x1, .int x0] w) := pm_ns pt_127 pt_96 pt_M_6_110 (Or.inl rfl) d127_16 ⟨rfl, rfl⟩ ⟨⟨rfl, Nat.le_of_ble_eq_true rfl, Nat.le_of_ble_eq_true rfl, Nat.le_of_ble_eq_true rfl, Nat.le_of_ble_eq_true rfl⟩, rfl⟩
theorem d127_19 : decode cX6_event 19 = .ok (.ifCond .eq 24, 3) := by decide +kernel
theorem z127_19 {st : List Value} {w : pm_H} {pl : pm_L} {x0 : Int32} : pm_ev 127 19 pl (.int x0 :: st) w = if x0 = 0 then pm_ev 127 43 pl st w else pm_ev 127 22 pl st w := pm_nif pt_127 d127_19 rfl rfl rfl
theorem d127_22 : decode cX6_event 22 = .ok (.iload_n 2, 1) := by decide +kernel
theorem z127_22 {st : List Value} {w : pm_H} {b0 b1 : Option Value} {x0 : Int32} : pm_ev 127 22 [b0, b1, some (.int x0)] st w = pm_ev 127 23 [b0, b1, some (.int x0)] (.int x0 :: st) w := pm_ny pt_127 d127_22 rfl rfl rfl
theorem d127_23 : decode cX6_event 23 = .ok (.iconst 0, 1) := by decide +kernel
theorem z127_23 {st : List Value} {w : pm_H} {pl : pm_L} : pm_ev 127 23 pl st w = pm_ev 127 24 pl (.int 0 :: st) w := pm_ny pt_127 d127_23 rfl rfl rfl
theorem d127_24 : decode cX6_event 24 = .ok (.iconst 2, 1) := by decide +kernel
theorem z127_24 {st : List Value} {w : pm_H} {pl : pm_L} : pm_ev 127 24 pl st w = pm_ev 127 25 pl (.int 2 :: st) w := pm_ny pt_127 d127_24 rfl rfl rfl
theorem d127_25 : decode cX6_event 25 = .ok (.invokestatic 110, 3) := by decide +kernel
theorem z127_25 {w : pm_H} {b0 b1 b2 : Option Value} {x0 : Int32} {x1 : Int32} {x2 : Int32} : pm_ev 127 25 [b0, b1, b2] [.int x0, .int x1, .int x2] w = pm_k 127 28 [b0, b1, b2] [] (pm_call 96 [.int x2, .int x1, .int x0] w) := pm_ns pt_127 pt_96 pt_M_6_110 (Or.inl rfl) d127_25 ⟨rfl, rfl⟩ ⟨⟨rfl, Nat.le_of_ble_eq_true rfl, Nat.le_of_ble_eq_true rfl, Nat.le_of_ble_eq_true rfl, Nat.le_of_ble_eq_true rfl⟩, rfl⟩
theorem d127_28 : decode cX6_event 28 = .ok (.ifCond .eq 15, 3) := by decide +kernel
theorem z127_28 {st : List Value} {w : pm_H} {pl : pm_L} {x0 : Int32} : pm_ev 127 28 pl (.int x0 :: st) w = if x0 = 0 then pm_ev 127 43 pl st w else pm_ev 127 31 pl st w := pm_nif pt_127 d127_28 rfl rfl rfl
theorem d127_31 : decode cX6_event 31 = .ok (.aload_n 0, 1) := by decide +kernel
theorem z127_31 {st : List Value} {w : pm_H} {b1 b2 : Option Value} {x0 : Nat} : pm_ev 127 31 [some (.ref x0), b1, b2] st w = pm_ev 127 32 [some (.ref x0), b1, b2] (.ref x0 :: st) w := pm_ny pt_127 d127_31 rfl rfl rfl
theorem d127_32 : decode cX6_event 32 = .ok (.getfield 84, 3) := by decide +kernel
theorem z127_32 {st : List Value} {w : pm_H} {pl : pm_L} {x0 : Nat} : pm_ev 127 32 pl (.ref x0 :: st) w = pm_kv 127 35 pl st w (pm_gf (w x0) 6 11) := pm_ng pt_127 pt_F_6_84 d127_32
theorem d127_35 : decode cX6_event 35 = .ok (.iload_n 1, 1) := by decide +kernel
theorem z127_35 {st : List Value} {w : pm_H} {b0 b2 : Option Value} {x0 : Int32} : pm_ev 127 35 [b0, some (.int x0), b2] st w = pm_ev 127 36 [b0, some (.int x0), b2] (.int x0 :: st) w := pm_ny pt_127 d127_35 rfl rfl rfl
theorem d127_36 : decode cX6_event 36 = .ok (.iload_n 2, 1) := by decide +kernel
theorem z127_36 {st : List Value} {w : pm_H} {b0 b1 : Option Value} {x0 : Int32} : pm_ev 127 36 [b0, b1, some (.int x0)] st w = pm_ev 127 37 [b0, b1, some (.int x0)] (.int x0 :: st) w := pm_ny pt_127 d127_36 rfl rfl rfl
theorem d127_37 : decode cX6_event 37 = .ok (.invokestatic 134, 3) := by decide +kernel
theorem z127_37 {w : pm_H} {b0 b1 b2 : Option Value} {x0 : Int32} {x1 : Int32} {x2 : Nat} : pm_ev 127 37 [b0, b1, b2] [.int x0, .int x1, .ref x2] w = pm_k 127 40 [b0, b1, b2] [] (pm_call 112 [.ref x2, .int x1, .int x0] w) := pm_ns pt_127 pt_112 pt_M_6_134 (Or.inl rfl) d127_37 ⟨rfl, rfl⟩ ⟨⟨rfl, Nat.le_of_ble_eq_true rfl, Nat.le_of_ble_eq_true rfl, Nat.le_of_ble_eq_true rfl, Nat.le_of_ble_eq_true rfl⟩, rfl⟩
theorem d127_40 : decode cX6_event 40 = .ok (.goto 4, 3) := by decide +kernel
theorem z127_40 {st : List Value} {w : pm_H} {pl : pm_L} : pm_ev 127 40 pl st w = pm_ev 127 44 pl st w := pm_ny pt_127 d127_40 rfl rfl rfl
theorem d127_43 : decode cX6_event 43 = .ok (.iconst (-1), 1) := by decide +kernel
theorem z127_43 {st : List Value} {w : pm_H} {pl : pm_L} : pm_ev 127 43 pl st w = pm_ev 127 44 pl (.int (-1) :: st) w := pm_ny pt_127 d127_43 rfl rfl rfl
theorem d127_44 : decode cX6_event 44 = .ok (.ireturn, 1) := by decide +kernel
theorem z127_44 {w : pm_H} {pl : pm_L} {x0 : Int32} : pm_ev 127 44 pl [.int x0] w = some (some (.int x0), w) := pm_nr pt_127 d127_44 rfl
theorem d128_0 : decode cX6_instrument 0 = .ok (.aload_n 0, 1) := by decide +kernel
theorem z128_0 {st : List Value} {w : pm_H} {b1 b2 : Option Value} {x0 : Nat} : pm_ev 128 0 [some (.ref x0), b1, b2] st w = pm_ev 128 1 [some (.ref x0), b1, b2] (.ref x0 :: st) w := pm_ny pt_128 d128_0 rfl rfl rfl
theorem d128_1 : decode cX6_instrument 1 = .ok (.iconst 0, 1) := by decide +kernel
theorem z128_1 {st : List Value} {w : pm_H} {pl : pm_L} : pm_ev 128 1 pl st w = pm_ev 128 2 pl (.int 0 :: st) w := pm_ny pt_128 d128_1 rfl rfl rfl
theorem d128_2 : decode cX6_instrument 2 = .ok (.putfield 1, 3) := by decide +kernel
theorem z128_2 {st : List Value} {w : pm_H} {pl : pm_L} {x0 : Nat} {x1 : Int32} : pm_ev 128 2 pl (.int x1 :: .ref x0 :: st) w = pm_kw 128 5 pl st (pm_pf w x0 (w x0) 6 0 0 (.int x1)) := pm_np pt_128 pt_F_6_1 d128_2
theorem d128_5 : decode cX6_instrument 5 = .ok (.aload_n 0, 1) := by decide +kernel
theorem z128_5 {st : List Value} {w : pm_H} {b1 b2 : Option Value} {x0 : Nat} : pm_ev 128 5 [some (.ref x0), b1, b2] st w = pm_ev 128 6 [some (.ref x0), b1, b2] (.ref x0 :: st) w := pm_ny pt_128 d128_5 rfl rfl rfl
theorem d128_6 : decode cX6_instrument 6 = .ok (.iload_n 1, 1) := by decide +kernel
theorem z128_6 {st : List Value} {w : pm_H} {b0 b2 : Option Value} {x0 : Int32} : pm_ev 128 6 [b0, some (.int x0), b2] st w = pm_ev 128 7 [b0, some (.int x0), b2] (.int x0 :: st) w := pm_ny pt_128 d128_6 rfl rfl rfl
theorem d128_7 : decode cX6_instrument 7 = .ok (.invokevirtual 195, 3) := by decide +kernel
theorem z128_7 {w : pm_H} {b0 b1 b2 : Option Value} {x0 : Int32} {x1 : Nat} : pm_ev 128 7 [b0, b1, b2] [.int x0, .ref x1] w = pm_k 128 10 [b0, b1, b2] [] (pm_vc (w x1) 6 (pm_call 129 [.ref x1, .int x0] w)) := pm_nv pt_128 pt_129 pt_M_6_195 d128_7 ⟨rfl, rfl⟩ ⟨⟨rfl, Nat.le_of_ble_eq_true rfl, Nat.le_of_ble_eq_true rfl, Nat.le_of_ble_eq_true rfl, Nat.le_of_ble_eq_true rfl⟩, rfl⟩
theorem d128_10 : decode cX6_instrument 10 = .ok (.ifCond .eq 12, 3) := by decide +kernel
theorem z128_10 {st : List Value} {w : pm_H} {pl : pm_L} {x0 : Int32} : pm_ev 128 10 pl (.int x0 :: st) w = if x0 = 0 then pm_ev 128 22 pl st w else pm_ev 128 13 pl st w := pm_nif pt_128 d128_10 rfl rfl rfl
theorem d128_13 : decode cX6_instrument 13 = .ok (.iload_n 2, 1) := by decide +kernel
theorem z128_13 {st : List Value} {w : pm_H} {b0 b1 : Option Value} {x0 : Int32} : pm_ev 128 13 [b0, b1, some (.int x0)] st w = pm_ev 128 14 [b0, b1, some (.int x0)] (.int x0 :: st) w := pm_ny pt_128 d128_13 rfl rfl rfl
theorem d128_14 : decode cX6_instrument 14 = .ok (.iconst 0, 1) := by decide +kernel
theorem z128_14 {st : List Value} {w : pm_H} {pl : pm_L} : pm_ev 128 14 pl st w = pm_ev 128 15 pl (.int 0 :: st) w := pm_ny pt_128 d128_14 rfl rfl rfl
theorem d128_15 : decode cX6_instrument 15 = .ok (.iconst 4, 1) := by decide +kernel
theorem z128_15 {st : List Value} {w : pm_H} {pl : pm_L} : pm_ev 128 15 pl st w = pm_ev 128 16 pl (.int 4 :: st) w := pm_ny pt_128 d128_15 rfl rfl rfl
theorem d128_16 : decode cX6_instrument 16 = .ok (.invokestatic 110, 3) := by decide +kernel
theorem z128_16 {w : pm_H} {b0 b1 b2 : Option Value} {x0 : Int32} {x1 : Int32} {x2 : Int32} : pm_ev 128 16 [b0, b1, b2] [.int x0, .int x1, .int x2] w = pm_k 128 19 [b0, b1, b2] [] (pm_call 96 [.int x2, .int x1, .int x0] w) := pm_ns pt_128 pt_96 pt_M_6_110 (Or.inl rfl) d128_16 ⟨rfl, rfl⟩ ⟨⟨rfl, Nat.le_of_ble_eq_true rfl, Nat.le_of_ble_eq_true rfl, Nat.le_of_ble_eq_true rfl, Nat.le_of_ble_eq_true rfl⟩, rfl⟩
theorem d128_19 : decode cX6_instrument 19 = .ok (.ifCond .ne 7, 3) := by decide +kernel
theorem z128_19 {st : List Value} {w : pm_H} {pl : pm_L} {x0 : Int32} : pm_ev 128 19 pl (.int x0 :: st) w = if x0 = 0 then pm_ev 128 22 pl st w else pm_ev 128 26 pl st w := pm_nin (c := ¬ x0 = 0) pt_128 d128_19 rfl rfl rfl Iff.rfl
theorem d128_22 : decode cX6_instrument 22 = .ok (.iconst (-1), 1) := by decide +kernel
theorem z128_22 {st : List Value} {w : pm_H} {pl : pm_L} : pm_ev 128 22 pl st w = pm_ev 128 23 pl (.int (-1) :: st) w := pm_ny pt_128 d128_22 rfl rfl rfl
theorem d128_23 : decode cX6_instrument 23 = .ok (.goto 22, 3) := by decide +kernel
theorem z128_23 {st : List Value} {w : pm_H} {pl : pm_L} : pm_ev 128 23 pl st w = pm_ev 128 45 pl st w := pm_ny pt_128 d128_23 rfl rfl rfl
theorem d128_26 : decode cX6_instrument 26 = .ok (.iload_n 2, 1) := by decide +kernel
theorem z128_26 {st : List Value} {w : pm_H} {b0 b1 : Option Value} {x0 : Int32} : pm_ev 128 26 [b0, b1, some (.int x0)] st w = pm_ev 128 27 [b0, b1, some (.int x0)] (.int x0 :: st) w := pm_ny pt_128 d128_26 rfl rfl rfl
theorem d128_27 : decode cX6_instrument 27 = .ok (.iconst 4, 1) := by decide +kernel
theorem z128_27 {st : List Value} {w : pm_H} {pl : pm_L} : pm_ev 128 27 pl st w = pm_ev 128 28 pl (.int 4 :: st) w := pm_ny pt_128 d128_27 rfl rfl rfl
theorem d128_28 : decode cX6_instrument 28 = .ok (.if_icmp .ne 11, 3) := by decide +kernel
theorem z128_28 {st : List Value} {w : pm_H} {pl : pm_L} {x0 x1 : Int32} : pm_ev 128 28 pl (.int x1 :: .int x0 :: st) w = if x0 = x1 then pm_ev 128 31 pl st w else pm_ev 128 39 pl st w := pm_nin (c := ¬ x0 = x1) pt_128 d128_28 rfl rfl rfl Iff.rfl
theorem d128_31 : decode cX6_instrument 31 = .ok (.aload_n 0, 1) := by decide +kernel
theorem z128_31 {st : List Value} {w : pm_H} {b1 b2 : Option Value} {x0 : Nat} : pm_ev 128 31 [some (.ref x0), b1, b2] st w = pm_ev 128 32 [some (.ref x0), b1, b2] (.ref x0 :: st) w := pm_ny pt_128 d128_31 rfl rfl rfl
theorem d128_32 : decode cX6_instrument 32 = .ok (.iload_n 1, 1) := by decide +kernel
theorem z128_32 {st : List Value} {w : pm_H} {b0 b2 : Option Value} {x0 : Int32} : pm_ev 128 32 [b0, some (.int x0), b2] st w = pm_ev 128 33 [b0, some (.int x0), b2] (.int x0 :: st) w := pm_ny pt_128 d128_32 rfl rfl rfl
theorem d128_33 : decode cX6_instrument 33 = .ok (.invokevirtual 198, 3) := by decide +kernel
theorem z128_33 {w : pm_H} {b0 b1 b2 : Option Value} {x0 : Int32} {x1 : Nat} : pm_ev 128 33 [b0, b1, b2] [.int x0, .ref x1] w = pm_k 128 36 [b0, b1, b2] [] (pm_vc (w x1) 6 (pm_call 130 [.ref x1, .int x0] w)) := pm_nv pt_128 pt_130 pt_M_6_198 d128_33 ⟨rfl, rfl⟩ ⟨⟨rfl, Nat.le_of_ble_eq_true rfl, Nat.le_of_ble_eq_true rfl, Nat.le_of_ble_eq_true rfl, Nat.le_of_ble_eq_true rfl⟩, rfl⟩
theorem d128_36 : decode cX6_instrument 36 = .ok (.goto 9, 3) := by decide +kernel
theorem z128_36 {st : List Value} {w : pm_H} {pl : pm_L} : pm_ev 128 36 pl st w = pm_ev 128 45 pl st w := pm_ny pt_128 d128_36 rfl rfl rfl
theorem d128_39 : decode cX6_instrument 39 = .ok (.aload_n 0, 1) := by decide +kernel
theorem z128_39 {st : List Value} {w : pm_H} {b1 b2 : Option Value} {x0 : Nat} : pm_ev 128 39 [some (.ref x0), b1, b2] st w = pm_ev 128 40 [some (.ref x0), b1, b2] (.ref x0 :: st) w := pm_ny pt_128 d128_39 rfl rfl rfl
theorem d128_40 : decode cX6_instrument 40 = .ok (.iload_n 1, 1) := by decide +kernel
theorem z128_40 {st : List Value} {w : pm_H} {b0 b2 : Option Value} {x0 : Int32} : pm_ev 128 40 [b0, some (.int x0), b2] st w = pm_ev 128 41 [b0, some (.int x0), b2] (.int x0 :: st) w := pm_ny pt_128 d128_40 rfl rfl rfl
theorem d128_41 : decode cX6_instrument 41 = .ok (.iload_n 2, 1) := by decide +kernel
theorem z128_41 {st : List Value} {w : pm_H} {b0 b1 : Option Value} {x0 : Int32} : pm_ev 128 41 [b0, b1, some (.int x0)] st w = pm_ev 128 42 [b0, b1, some (.int x0)] (.int x0 :: st) w := pm_ny pt_128 d128_41 rfl rfl rfl
theorem d128_42 : decode cX6_instrument 42 = .ok (.invokevirtual 179, 3) := by decide +kernel
theorem z128_42 {w : pm_H} {b0 b1 b2 : Option Value} {x0 : Int32} {x1 : Int32} {x2 : Nat} : pm_ev 128 42 [b0, b1, b2] [.int x0, .int x1, .ref x2] w = pm_k 128 45 [b0, b1, b2] [] (pm_vc (w x2) 6 (pm_call 131 [.ref x2, .int x1, .int x0] w)) := pm_nv pt_128 pt_131 pt_M_6_179 d128_42 ⟨rfl, rfl⟩ ⟨⟨rfl, Nat.le_of_ble_eq_true rfl, Nat.le_of_ble_eq_true rfl, Nat.le_of_ble_eq_true rfl, Nat.le_of_ble_eq_true rfl⟩, rfl⟩
theorem d128_45 : decode cX6_instrument 45 = .ok (.ireturn, 1) := by decide +kernel
theorem z128_45 {w : pm_H} {pl : pm_L} {x0 : Int32} : pm_ev 128 45 pl [.int x0] w = some (some (.int x0), w) := pm_nr pt_128 d128_45 rfl
theorem d129_0 : decode cX6_isInstrument 0 = .ok (.iload_n 1, 1) := by decide +kernel
theorem z129_0 {st : List Value} {w : pm_H} {b0 : Option Value} {x0 : Int32} : pm_ev 129 0 [b0, some (.int x0)] st w = pm_ev 129 1 [b0, some (.int x0)] (.int x0 :: st) w := pm_ny pt_129 d129_0 rfl rfl rfl
theorem d129_1 : decode cX6_isInstrument 1 = .ok (.iconst 0, 1) := by decide +kernel
theorem z129_1 {st : List Value} {w : pm_H} {pl : pm_L} : pm_ev 129 1 pl st w = pm_ev 129 2 pl (.int 0 :: st) w := pm_ny pt_129 d129_1 rfl rfl rfl
theorem d129_2 : decode cX6_isInstrument 2 = .ok (.aload_n 0, 1) := by decide +kernel
theorem z129_2 {st : List Value} {w : pm_H} {b1 : Option Value} {x0 : Nat} : pm_ev 129 2 [some (.ref x0), b1] st w = pm_ev 129 3 [some (.ref x0), b1] (.ref x0 :: st) w := pm_ny pt_129 d129_2 rfl rfl rfl
theorem d129_3 : decode cX6_isInstrument 3 = .ok (.getfield 84, 3) := by decide +kernel
theorem z129_3 {st : List Value} {w : pm_H} {pl : pm_L} {x0 : Nat} : pm_ev 129 3 pl (.ref x0 :: st) w = pm_kv 129 6 pl st w (pm_gf (w x0) 6 11) := pm_ng pt_129 pt_F_6_84 d129_3
theorem d129_6 : decode cX6_isInstrument 6 = .ok (.bipush 70, 2) := by decide +kernel
theorem z129_6 {st : List Value} {w : pm_H} {pl : pm_L} : pm_ev 129 6 pl st w = pm_ev 129 8 pl (.int 70 :: st) w := pm_ny pt_129 d129_6 rfl rfl rfl
theorem d129_8 : decode cX6_isInstrument 8 = .ok (.iaload, 1) := by decide +kernel
theorem z129_8 {st : List Value} {w : pm_H} {pl : pm_L} {x0 : Nat} {x1 : Int32} : pm_ev 129 8 pl (.int x1 :: .ref x0 :: st) w = pm_kv 129 9 pl st w (pm_ia (w x0) 0 x1) := pm_nia pt_129 d129_8
theorem d129_9 : decode cX6_isInstrument 9 = .ok (.iconst 1, 1) := by decide +kernel
theorem z129_9 {st : List Value} {w : pm_H} {pl : pm_L} : pm_ev 129 9 pl st w = pm_ev 129 10 pl (.int 1 :: st) w := pm_ny pt_129 d129_9 rfl rfl rfl
theorem d129_10 : decode cX6_isInstrument 10 = .ok (.isub, 1) := by decide +kernel
theorem z129_10 {st : List Value} {w : pm_H} {pl : pm_L} {x0 x1 : Int32} : pm_ev 129 10 pl (.int x1 :: .int x0 :: st) w = pm_ev 129 11 pl (.int (x0 - x1) :: st) w := pm_ny pt_129 d129_10 rfl rfl rfl
theorem d129_11 : decode cX6_isInstrument 11 = .ok (.invokestatic 110, 3) := by decide +kernel
theorem z129_11 {w : pm_H} {b0 b1 : Option Value} {x0 : Int32} {x1 : Int32} {x2 : Int32} : pm_ev 129 11 [b0, b1] [.int x0, .int x1, .int x2] w = pm_k 129 14 [b0, b1] [] (pm_call 96 [.int x2, .int x1, .int x0] w) := pm_ns pt_129 pt_96 pt_M_6_110 (Or.inl rfl) d129_11 ⟨rfl, rfl⟩ ⟨⟨rfl, Nat.le_of_ble_eq_true rfl, Nat.le_of_ble_eq_true rfl, Nat.le_of_ble_eq_true rfl, Nat.le_of_ble_eq_true rfl⟩, rfl⟩
theorem d129_14 : decode cX6_isInstrument 14 = .ok (.ireturn, 1) := by decide +kernel
theorem z129_14 {w : pm_H} {pl : pm_L} {x0 : Int32} : pm_ev 129 14 pl [.int x0] w = pm_zr x0 w := pm_nz pt_129 d129_14
theorem d130_0 : decode cX6_old 0 = .ok (.aload_n 0, 1) := by decide +kernel
theorem z130_0 {st : List Value} {w : pm_H} {b1 : Option Value} {x0 : Nat} : pm_ev 130 0 [some (.ref x0), b1] st w = pm_ev 130 1 [some (.ref x0), b1] (.ref x0 :: st) w := pm_ny pt_130 d130_0 rfl rfl rfl
theorem d130_1 : decode cX6_old 1 = .ok (.iload_n 1, 1) := by decide +kernel
theorem z130_1 {st : List Value} {w : pm_H} {b0 : Option Value} {x0 : Int32} : pm_ev 130 1 [b0, some (.int x0)] st w = pm_ev 130 2 [b0, some (.int x0)] (.int x0 :: st) w := pm_ny pt_130 d130_1 rfl rfl rfl
theorem d130_2 : decode cX6_old 2 = .ok (.iconst 2, 1) := by decide +kernel
theorem z130_2 {st : List Value} {w : pm_H} {pl : pm_L} : pm_ev 130 2 pl st w = pm_ev 130 3 pl (.int 2 :: st) w := pm_ny pt_130 d130_2 rfl rfl rfl
theorem d130_3 : decode cX6_old 3 = .ok (.invokevirtual 179, 3) := by decide +kernel
theorem z130_3 {w : pm_H} {b0 b1 : Option Value} {x0 : Int32} {x1 : Int32} {x2 : Nat} : pm_ev 130 3 [b0, b1] [.int x0, .int x1, .ref x2] w = pm_k 130 6 [b0, b1] [] (pm_vc (w x2) 6 (pm_call 131 [.ref x2, .int x1, .int x0] w)) := pm_nv pt_130 pt_131 pt_M_6_179 d130_3 ⟨rfl, rfl⟩ ⟨⟨rfl, Nat.le_of_ble_eq_true rfl, Nat.le_of_ble_eq_true rfl, Nat.le_of_ble_eq_true rfl, Nat.le_of_ble_eq_true rfl⟩, rfl⟩
theorem d130_6 : decode cX6_old 6 = .ok (.aload_n 0, 1) := by decide +kernel
theorem z130_6 {st : List Value} {w : pm_H} {b1 : Option Value} {x0 : Nat} : pm_ev 130 6 [some (.ref x0), b1] st w = pm_ev 130 7 [some (.ref x0), b1] (.ref x0 :: st) w := pm_ny pt_130 d130_6 rfl rfl rfl
theorem d130_7 : decode cX6_old 7 = .ok (.aload_n 0, 1) := by decide +kernel
theorem z130_7 {st : List Value} {w : pm_H} {b1 : Option Value} {x0 : Nat} : pm_ev 130 7 [some (.ref x0), b1] st w = pm_ev 130 8 [some (.ref x0), b1] (.ref x0 :: st) w := pm_ny pt_130 d130_7 rfl rfl rfl
theorem d130_8 : decode cX6_old 8 = .ok (.iload_n 1, 1) := by decide +kernel
theorem z130_8 {st : List Value} {w : pm_H} {b0 : Option Value} {x0 : Int32} : pm_ev 130 8 [b0, some (.int x0)] st w = pm_ev 130 9 [b0, some (.int x0)] (.int x0 :: st) w := pm_ny pt_130 d130_8 rfl rfl rfl
theorem d130_9 : decode cX6_old 9 = .ok (.iconst 1, 1) := by decide +kernel
theorem z130_9 {st : List Value} {w : pm_H} {pl : pm_L} : pm_ev 130 9 pl st w = pm_ev 130 10 pl (.int 1 :: st) w := pm_ny pt_130 d130_9 rfl rfl rfl
theorem d130_10 : decode cX6_old 10 = .ok (.invokevirtual 179, 3) := by decide +kernel
theorem z130_10 {w : pm_H} {b0 b1 : Option Value} {x0 : Int32} {x1 : Int32} {x2 : Nat} {x3 : Nat} {x4 : Int32} : pm_ev 130 10 [b0, b1] [.int x0, .int x1, .ref x2, .ref x3, .int x4] w = pm_k 130 13 [b0, b1] [.ref x3, .int x4] (pm_vc (w x2) 6 (pm_call 131 [.ref x2, .int x1, .int x0] w)) := pm_nv pt_130 pt_131 pt_M_6_179 d130_10 ⟨rfl, rfl⟩ ⟨⟨rfl, Nat.le_of_ble_eq_true rfl, Nat.le_of_ble_eq_true rfl, Nat.le_of_ble_eq_true rfl, Nat.le_of_ble_eq_true rfl⟩, rfl⟩
theorem d130_13 : decode cX6_old 13 = .ok (.sipush 360, 3) := by decide +kernel
theorem z130_13 {st : List Value} {w : pm_H} {pl : pm_L} : pm_ev 130 13 pl st w = pm_ev 130 16 pl (.int 360 :: st) w := pm_ny pt_130 d130_13 rfl rfl rfl
theorem d130_16 : decode cX6_old 16 = .ok (.invokevirtual 175, 3) := by decide +kernel
theorem z130_16 {w : pm_H} {b0 b1 : Option Value} {x0 : Int32} {x1 : Int32} {x2 : Nat} {x3 : Int32} : pm_ev 130 16 [b0, b1] [.int x0, .int x1, .ref x2, .int x3] w = pm_k 130 19 [b0, b1] [.int x3] (pm_vc (w x2) 6 (pm_call 123 [.ref x2, .int x1, .int x0] w)) := pm_nv pt_130 pt_123 pt_M_6_175 d130_16 ⟨rfl, rfl⟩ ⟨⟨rfl, Nat.le_of_ble_eq_true rfl, Nat.le_of_ble_eq_true rfl, Nat.le_of_ble_eq_true rfl, Nat.le_of_ble_eq_true rfl⟩, rfl⟩
theorem d130_19 : decode cX6_old 19 = .ok (.imul, 1) := by decide +kernel
theorem z130_19 {st : List Value} {w : pm_H} {pl : pm_L} {x0 x1 : Int32} : pm_ev 130 19 pl (.int x1 :: .int x0 :: st) w = pm_ev 130 20 pl (.int (x0 * x1) :: st) w := pm_ny pt_130 d130_19 rfl rfl rfl
theorem d130_20 : decode cX6_old 20 = .ok (.ireturn, 1) := by decide +kernel
theorem z130_20 {w : pm_H} {pl : pm_L} {x0 : Int32} : pm_ev 130 20 pl [.int x0] w = some (some (.int x0), w) := pm_nr pt_130 d130_20 rfl
theorem d131_0 : decode cX6_its 0 = .ok (.aload_n 0, 1) := by decide +kernel
theorem z131_0 {st : List Value} {w : pm_H} {b1 b2 : Option Value} {x0 : Nat} : pm_ev 131 0 [some (.ref x0), b1, b2] st w = pm_ev 131 1 [some (.ref x0), b1, b2] (.ref x0 :: st) w := pm_ny pt_131 d131_0 rfl rfl rfl
theorem d131_1 : decode cX6_its 1 = .ok (.getfield 84, 3) := by decide +kernel
theorem z131_1 {st : List Value} {w : pm_H} {pl : pm_L} {x0 : Nat} : pm_ev 131 1 pl (.ref x0 :: st) w = pm_kv 131 4 pl st w (pm_gf (w x0) 6 11) := pm_ng pt_131 pt_F_6_84 d131_1
theorem d131_4 : decode cX6_its 4 = .ok (.bipush 71, 2) := by decide +kernel
theorem z131_4 {st : List Value} {w : pm_H} {pl : pm_L} : pm_ev 131 4 pl st w = pm_ev 131 6 pl (.int 71 :: st) w := pm_ny pt_131 d131_4 rfl rfl rfl
theorem d131_6 : decode cX6_its 6 = .ok (.iconst 4, 1) := by decide +kernel
theorem z131_6 {st : List Value} {w : pm_H} {pl : pm_L} : pm_ev 131 6 pl st w = pm_ev 131 7 pl (.int 4 :: st) w := pm_ny pt_131 d131_6 rfl rfl rfl
theorem d131_7 : decode cX6_its 7 = .ok (.iload_n 1, 1) := by decide +kernel
theorem z131_7 {st : List Value} {w : pm_H} {b0 b2 : Option Value} {x0 : Int32} : pm_ev 131 7 [b0, some (.int x0), b2] st w = pm_ev 131 8 [b0, some (.int x0), b2] (.int x0 :: st) w := pm_ny pt_131 d131_7 rfl rfl rfl
theorem d131_8 : decode cX6_its 8 = .ok (.imul, 1) := by decide +kernel
theorem z131_8 {st : List Value} {w : pm_H} {pl : pm_L} {x0 x1 : Int32} : pm_ev 131 8 pl (.int x1 :: .int x0 :: st) w = pm_ev 131 9 pl (.int (x0 * x1) :: st) w := pm_ny pt_131 d131_8 rfl rfl rfl
theorem d131_9 : decode cX6_its 9 = .ok (.iadd, 1) := by decide +kernel
theorem z131_9 {st : List Value} {w : pm_H} {pl : pm_L} {x0 x1 : Int32} : pm_ev 131 9 pl (.int x1 :: .int x0 :: st) w = pm_ev 131 10 pl (.int (x0 + x1) :: st) w := pm_ny pt_131 d131_9 rfl rfl rfl
theorem d131_10 : decode cX6_its 10 = .ok (.iload_n 2, 1) := by decide +kernel
theorem z131_10 {st : List Value} {w : pm_H} {b0 b1 : Option Value} {x0 : Int32} : pm_ev 131 10 [b0, b1, some (.int x0)] st w = pm_ev 131 11 [b0, b1, some (.int x0)] (.int x0 :: st) w := pm_ny pt_131 d131_10 rfl rfl rfl
theorem d131_11 : decode cX6_its 11 = .ok (.iadd, 1) := by decide +kernel
theorem z131_11 {st : List Value} {w : pm_H} {pl : pm_L} {x0 x1 : Int32} : pm_ev 131 11 pl (.int x1 :: .int x0 :: st) w = pm_ev 131 12 pl (.int (x0 + x1) :: st) w := pm_ny pt_131 d131_11 rfl rfl rfl
theorem d131_12 : decode cX6_its 12 = .ok (.iaload, 1) := by decide +kernel
theorem z131_12 {st : List Value} {w : pm_H} {pl : pm_L} {x0 : Nat} {x1 : Int32} : pm_ev 131 12 pl (.int x1 :: .ref x0 :: st) w = pm_kv 131 13 pl st w (pm_ia (w x0) 0 x1) := pm_nia pt_131 d131_12
theorem d131_13 : decode cX6_its 13 = .ok (.ireturn, 1) := by decide +kernel
theorem z131_13 {w : pm_H} {pl : pm_L} {x0 : Int32} : pm_ev 131 13 pl [.int x0] w = some (some (.int x0), w) := pm_nr pt_131 d131_13 rfl
theorem d132_0 : decode cX6_weight 0 = .ok (.aload_n 0, 1) := by decide +kernel
theorem z132_0 {st : List Value} {w : pm_H} {b1 b2 : Option Value} {x0 : Nat} : pm_ev 132 0 [some (.ref x0), b1, b2] st w = pm_ev 132 1 [some (.ref x0), b1, b2] (.ref x0 :: st) w := pm_ny pt_132 d132_0 rfl rfl rfl
theorem d132_1 : decode cX6_weight 1 = .ok (.iconst 0, 1) := by decide +kernel
theorem z132_1 {st : List Value} {w : pm_H} {pl : pm_L} : pm_ev 132 1 pl st w = pm_ev 132 2 pl (.int 0 :: st) w := pm_ny pt_132 d132_1 rfl rfl rfl
theorem d132_2 : decode cX6_weight 2 = .ok (.putfield 1, 3) := by decide +kernel
theorem z132_2 {st : List Value} {w : pm_H} {pl : pm_L} {x0 : Nat} {x1 : Int32} : pm_ev 132 2 pl (.int x1 :: .ref x0 :: st) w = pm_kw 132 5 pl st (pm_pf w x0 (w x0) 6 0 0 (.int x1)) := pm_np pt_132 pt_F_6_1 d132_2
theorem d132_5 : decode cX6_weight 5 = .ok (.iload_n 1, 1) := by decide +kernel
theorem z132_5 {st : List Value} {w : pm_H} {b0 b2 : Option Value} {x0 : Int32} : pm_ev 132 5 [b0, some (.int x0), b2] st w = pm_ev 132 6 [b0, some (.int x0), b2] (.int x0 :: st) w := pm_ny pt_132 d132_5 rfl rfl rfl
theorem d132_6 : decode cX6_weight 6 = .ok (.iload_n 2, 1) := by decide +kernel
theorem z132_6 {st : List Value} {w : pm_H} {b0 b1 : Option Value} {x0 : Int32} : pm_ev 132 6 [b0, b1, some (.int x0)] st w = pm_ev 132 7 [b0, b1, some (.int x0)] (.int x0 :: st) w := pm_ny pt_132 d132_6 rfl rfl rfl
theorem d132_7 : decode cX6_weight 7 = .ok (.invokestatic 217, 3) := by decide +kernel
theorem z132_7 {w : pm_H} {b0 b1 b2 : Option Value} {x0 : Int32} {x1 : Int32} : pm_ev 132 7 [b0, b1, b2] [.int x0, .int x1] w = pm_k 132 10 [b0, b1, b2] [] (pm_call 133 [.int x1, .int x0] w) := pm_ns pt_132 pt_133 pt_M_6_217 (Or.inl rfl) d132_7 ⟨rfl, rfl⟩ ⟨⟨rfl, Nat.le_of_ble_eq_true rfl, Nat.le_of_ble_eq_true rfl, Nat.le_of_ble_eq_true rfl, Nat.le_of_ble_eq_true rfl⟩, rfl⟩
theorem d132_10 : decode cX6_weight 10 = .ok (.ifCond .eq 12, 3) := by decide +kernel
theorem z132_10 {st : List Value} {w : pm_H} {pl : pm_L} {x0 : Int32} : pm_ev 132 10 pl (.int x0 :: st) w = if x0 = 0 then pm_ev 132 22 pl st w else pm_ev 132 13 pl st w := pm_nif pt_132 d132_10 rfl rfl rfl
theorem d132_13 : decode cX6_weight 13 = .ok (.aload_n 0, 1) := by decide +kernel
theorem z132_13 {st : List Value} {w : pm_H} {b1 b2 : Option Value} {x0 : Nat} : pm_ev 132 13 [some (.ref x0), b1, b2] st w = pm_ev 132 14 [some (.ref x0), b1, b2] (.ref x0 :: st) w := pm_ny pt_132 d132_13 rfl rfl rfl
theorem d132_14 : decode cX6_weight 14 = .ok (.iload_n 1, 1) := by decide +kernel
theorem z132_14 {st : List Value} {w : pm_H} {b0 b2 : Option Value} {x0 : Int32} : pm_ev 132 14 [b0, some (.int x0), b2] st w = pm_ev 132 15 [b0, some (.int x0), b2] (.int x0 :: st) w := pm_ny pt_132 d132_14 rfl rfl rfl
theorem d132_15 : decode cX6_weight 15 = .ok (.iload_n 2, 1) := by decide +kernel
theorem z132_15 {st : List Value} {w : pm_H} {b0 b1 : Option Value} {x0 : Int32} : pm_ev 132 15 [b0, b1, some (.int x0)] st w = pm_ev 132 16 [b0, b1, some (.int x0)] (.int x0 :: st) w := pm_ny pt_132 d132_15 rfl rfl rfl
theorem d132_16 : decode cX6_weight 16 = .ok (.invokevirtual 221, 3) := by decide +kernel
theorem z132_16 {w : pm_H} {b0 b1 b2 : Option Value} {x0 : Int32} {x1 : Int32} {x2 : Nat} : pm_ev 132 16 [b0, b1, b2] [.int x0, .int x1, .ref x2] w = pm_k 132 19 [b0, b1, b2] [] (pm_vc (w x2) 6 (pm_call 134 [.ref x2, .int x1, .int x0] w)) := pm_nv pt_132 pt_134 pt_M_6_221 d132_16 ⟨rfl, rfl⟩ ⟨⟨rfl, Nat.le_of_ble_eq_true rfl, Nat.le_of_ble_eq_true rfl, Nat.le_of_ble_eq_true rfl, Nat.le_of_ble_eq_true rfl⟩, rfl⟩
theorem d132_19 : decode cX6_weight 19 = .ok (.goto 8, 3) := by decide +kernel
theorem z132_19 {st : List Value} {w : pm_H} {pl : pm_L} : pm_ev 132 19 pl st w = pm_ev 132 27 pl st w := pm_ny pt_132 d132_19 rfl rfl rfl
theorem d132_22 : decode cX6_weight 22 = .ok (.aload_n 0, 1) := by decide +kernel
theorem z132_22 {st : List Value} {w : pm_H} {b1 b2 : Option Value} {x0 : Nat} : pm_ev 132 22 [some (.ref x0), b1, b2] st w = pm_ev 132 23 [some (.ref x0), b1, b2] (.ref x0 :: st) w := pm_ny pt_132 d132_22 rfl rfl rfl
theorem d132_23 : decode cX6_weight 23 = .ok (.invokevirtual 191, 3) := by decide +kernel
theorem z132_23 {w : pm_H} {b0 b1 b2 : Option Value} {x0 : Nat} : pm_ev 132 23 [b0, b1, b2] [.ref x0] w = pm_k 132 26 [b0, b1, b2] [] (pm_vc (w x0) 6 (pm_call 126 [.ref x0] w)) := pm_nv pt_132 pt_126 pt_M_6_191 d132_23 ⟨rfl, rfl⟩ ⟨⟨rfl, Nat.le_of_ble_eq_true rfl, Nat.le_of_ble_eq_true rfl, Nat.le_of_ble_eq_true rfl, Nat.le_of_ble_eq_true rfl⟩, rfl⟩
theorem d132_26 : decode cX6_weight 26 = .ok (.i2l, 1) := by decide +kernel
theorem z132_26 {st : List Value} {w : pm_H} {pl : pm_L} {x0 : Int32} : pm_ev 132 26 pl (.int x0 :: st) w = pm_ev 132 27 pl (.long x0.toInt64 :: st) w := pm_ny pt_132 d132_26 rfl rfl rfl
theorem d132_27 : decode cX6_weight 27 = .ok (.lreturn, 1) := by decide +kernel
theorem z132_27 {w : pm_H} {pl : pm_L} {x0 : Int64} : pm_ev 132 27 pl [.long x0] w = some (some (.long x0), w) := pm_nr pt_132 d132_27 rfl
theorem d133_0 : decode cX6_isRun 0 = .ok (.iload_n 0, 1) := by decide +kernel
theorem z133_0 {st : List Value} {w : pm_H} {b1 : Option Value} {x0 : Int32} : pm_ev 133 0 [some (.int x0), b1] st w = pm_ev 133 1 [some (.int x0), b1] (.int x0 :: st) w := pm_ny pt_133 d133_0 rfl rfl rfl
theorem d133_1 : decode cX6_isRun 1 = .ok (.invokestatic 188, 3) := by decide +kernel
theorem z133_1 {w : pm_H} {b0 b1 : Option Value} {x0 : Int32} : pm_ev 133 1 [b0, b1] [.int x0] w = pm_k 133 4 [b0, b1] [] (pm_call 125 [.int x0] w) := pm_ns pt_133 pt_125 pt_M_6_188 (Or.inl rfl) d133_1 ⟨rfl, rfl⟩ ⟨⟨rfl, Nat.le_of_ble_eq_true rfl, Nat.le_of_ble_eq_true rfl, Nat.le_of_ble_eq_true rfl, Nat.le_of_ble_eq_true rfl⟩, rfl⟩
theorem d133_4 : decode cX6_isRun 4 = .ok (.ifCond .eq 19, 3) := by decide +kernel
theorem z133_4 {st : List Value} {w : pm_H} {pl : pm_L} {x0 : Int32} : pm_ev 133 4 pl (.int x0 :: st) w = if x0 = 0 then pm_ev 133 23 pl st w else pm_ev 133 7 pl st w := pm_nif pt_133 d133_4 rfl rfl rfl
theorem d133_7 : decode cX6_isRun 7 = .ok (.iload_n 1, 1) := by decide +kernel
theorem z133_7 {st : List Value} {w : pm_H} {b0 : Option Value} {x0 : Int32} : pm_ev 133 7 [b0, some (.int x0)] st w = pm_ev 133 8 [b0, some (.int x0)] (.int x0 :: st) w := pm_ny pt_133 d133_7 rfl rfl rfl
theorem d133_8 : decode cX6_isRun 8 = .ok (.invokestatic 188, 3) := by decide +kernel
theorem z133_8 {w : pm_H} {b0 b1 : Option Value} {x0 : Int32} : pm_ev 133 8 [b0, b1] [.int x0] w = pm_k 133 11 [b0, b1] [] (pm_call 125 [.int x0] w) := pm_ns pt_133 pt_125 pt_M_6_188 (Or.inl rfl) d133_8 ⟨rfl, rfl⟩ ⟨⟨rfl, Nat.le_of_ble_eq_true rfl, Nat.le_of_ble_eq_true rfl, Nat.le_of_ble_eq_true rfl, Nat.le_of_ble_eq_true rfl⟩, rfl⟩
theorem d133_11 : decode cX6_isRun 11 = .ok (.ifCond .eq 12, 3) := by decide +kernel
theorem z133_11 {st : List Value} {w : pm_H} {pl : pm_L} {x0 : Int32} : pm_ev 133 11 pl (.int x0 :: st) w = if x0 = 0 then pm_ev 133 23 pl st w else pm_ev 133 14 pl st w := pm_nif pt_133 d133_11 rfl rfl rfl
theorem d133_14 : decode cX6_isRun 14 = .ok (.iload_n 0, 1) := by decide +kernel
theorem z133_14 {st : List Value} {w : pm_H} {b1 : Option Value} {x0 : Int32} : pm_ev 133 14 [some (.int x0), b1] st w = pm_ev 133 15 [some (.int x0), b1] (.int x0 :: st) w := pm_ny pt_133 d133_14 rfl rfl rfl
theorem d133_15 : decode cX6_isRun 15 = .ok (.iload_n 1, 1) := by decide +kernel
theorem z133_15 {st : List Value} {w : pm_H} {b0 : Option Value} {x0 : Int32} : pm_ev 133 15 [b0, some (.int x0)] st w = pm_ev 133 16 [b0, some (.int x0)] (.int x0 :: st) w := pm_ny pt_133 d133_15 rfl rfl rfl
theorem d133_16 : decode cX6_isRun 16 = .ok (.if_icmp .gt 7, 3) := by decide +kernel
theorem z133_16 {st : List Value} {w : pm_H} {pl : pm_L} {x0 x1 : Int32} : pm_ev 133 16 pl (.int x1 :: .int x0 :: st) w = if x1 < x0 then pm_ev 133 23 pl st w else pm_ev 133 19 pl st w := pm_nif pt_133 d133_16 rfl rfl rfl
theorem d133_19 : decode cX6_isRun 19 = .ok (.iconst 1, 1) := by decide +kernel
theorem z133_19 {st : List Value} {w : pm_H} {pl : pm_L} : pm_ev 133 19 pl st w = pm_ev 133 20 pl (.int 1 :: st) w := pm_ny pt_133 d133_19 rfl rfl rfl
theorem d133_20 : decode cX6_isRun 20 = .ok (.goto 4, 3) := by decide +kernel
theorem z133_20 {st : List Value} {w : pm_H} {pl : pm_L} : pm_ev 133 20 pl st w = pm_ev 133 24 pl st w := pm_ny pt_133 d133_20 rfl rfl rfl
theorem d133_23 : decode cX6_isRun 23 = .ok (.iconst 0, 1) := by decide +kernel
theorem z133_23 {st : List Value} {w : pm_H} {pl : pm_L} : pm_ev 133 23 pl st w = pm_ev 133 24 pl (.int 0 :: st) w := pm_ny pt_133 d133_23 rfl rfl rfl
theorem d133_24 : decode cX6_isRun 24 = .ok (.ireturn, 1) := by decide +kernel
theorem z133_24 {w : pm_H} {pl : pm_L} {x0 : Int32} : pm_ev 133 24 pl [.int x0] w = pm_zr x0 w := pm_nz pt_133 d133_24
theorem d134_0 : decode cX6_weightOf 0 = .ok (.lconst 0, 1) := by decide +kernel
theorem z134_0 {st : List Value} {w : pm_H} {pl : pm_L} : pm_ev 134 0 pl st w = pm_ev 134 1 pl (.long 0 :: st) w := pm_ny pt_134 d134_0 rfl rfl rfl
theorem d134_1 : decode cX6_weightOf 1 = .ok (.lstore_n 3, 1) := by decide +kernel
theorem z134_1 {st : List Value} {w : pm_H} {b0 b1 b3 b4 b5 : Option Value} {x0 : Int64} {x9 : Int32} : pm_ev 134 1 [b0, b1, some (.int x9), b3, b4, b5] (.long x0 :: st) w = pm_ev 134 2 [b0, b1, some (.int x9), some (.long x0), none, b5] st w := pm_ny pt_134 d134_1 rfl rfl rfl
theorem d134_2 : decode cX6_weightOf 2 = .ok (.bipush 90, 2) := by decide +kernel
theorem z134_2 {st : List Value} {w : pm_H} {pl : pm_L} : pm_ev 134 2 pl st w = pm_ev 134 4 pl (.int 90 :: st) w := pm_ny pt_134 d134_2 rfl rfl rfl
theorem d134_4 : decode cX6_weightOf 4 = .ok (.iload_n 1, 1) := by decide +kernel
theorem z134_4 {st : List Value} {w : pm_H} {b0 b2 b3 b4 b5 : Option Value} {x0 : Int32} : pm_ev 134 4 [b0, some (.int x0), b2, b3, b4, b5] st w = pm_ev 134 5 [b0, some (.int x0), b2, b3, b4, b5] (.int x0 :: st) w := pm_ny pt_134 d134_4 rfl rfl rfl
theorem d134_5 : decode cX6_weightOf 5 = .ok (.imul, 1) := by decide +kernel
theorem z134_5 {st : List Value} {w : pm_H} {pl : pm_L} {x0 x1 : Int32} : pm_ev 134 5 pl (.int x1 :: .int x0 :: st) w = pm_ev 134 6 pl (.int (x0 * x1) :: st) w := pm_ny pt_134 d134_5 rfl rfl rfl
theorem d134_6 : decode cX6_weightOf 6 = .ok (.istore 5, 2) := by decide +kernel
theorem z134_6 {st : List Value} {w : pm_H} {b0 b1 b2 b3 b5 : Option Value} {x0 : Int32} : pm_ev 134 6 [b0, b1, b2, b3, none, b5] (.int x0 :: st) w = pm_ev 134 8 [b0, b1, b2, b3, none, some (.int x0)] st w := pm_ny pt_134 d134_6 rfl rfl rfl
theorem d134_8 : decode cX6_weightOf 8 = .ok (.iload 5, 2) := by decide +kernel
theorem z134_8 {st : List Value} {w : pm_H} {b0 b1 b2 b3 b4 : Option Value} {x0 : Int32} : pm_ev 134 8 [b0, b1, b2, b3, b4, some (.int x0)] st w = pm_ev 134 10 [b0, b1, b2, b3, b4, some (.int x0)] (.int x0 :: st) w := pm_ny pt_134 d134_8 rfl rfl rfl
theorem d134_10 : decode cX6_weightOf 10 = .ok (.bipush 90, 2) := by decide +kernel
theorem z134_10 {st : List Value} {w : pm_H} {pl : pm_L} : pm_ev 134 10 pl st w = pm_ev 134 12 pl (.int 90 :: st) w := pm_ny pt_134 d134_10 rfl rfl rfl
theorem d134_12 : decode cX6_weightOf 12 = .ok (.iload_n 2, 1) := by decide +kernel
theorem z134_12 {st : List Value} {w : pm_H} {b0 b1 b3 b4 b5 : Option Value} {x0 : Int32} : pm_ev 134 12 [b0, b1, some (.int x0), b3, b4, b5] st w = pm_ev 134 13 [b0, b1, some (.int x0), b3, b4, b5] (.int x0 :: st) w := pm_ny pt_134 d134_12 rfl rfl rfl
theorem d134_13 : decode cX6_weightOf 13 = .ok (.imul, 1) := by decide +kernel
theorem z134_13 {st : List Value} {w : pm_H} {pl : pm_L} {x0 x1 : Int32} : pm_ev 134 13 pl (.int x1 :: .int x0 :: st) w = pm_ev 134 14 pl (.int (x0 * x1) :: st) w := pm_ny pt_134 d134_13 rfl rfl rfl
theorem d134_14 : decode cX6_weightOf 14 = .ok (.bipush 90, 2) := by decide +kernel
theorem z134_14 {st : List Value} {w : pm_H} {pl : pm_L} : pm_ev 134 14 pl st w = pm_ev 134 16 pl (.int 90 :: st) w := pm_ny pt_134 d134_14 rfl rfl rfl
theorem d134_16 : decode cX6_weightOf 16 = .ok (.iadd, 1) := by decide +kernel
theorem z134_16 {st : List Value} {w : pm_H} {pl : pm_L} {x0 x1 : Int32} : pm_ev 134 16 pl (.int x1 :: .int x0 :: st) w = pm_ev 134 17 pl (.int (x0 + x1) :: st) w := pm_ny pt_134 d134_16 rfl rfl rfl
theorem d134_17 : decode cX6_weightOf 17 = .ok (.if_icmp .ge 19, 3) := by decide +kernel
theorem z134_17 {st : List Value} {w : pm_H} {pl : pm_L} {x0 x1 : Int32} : pm_ev 134 17 pl (.int x1 :: .int x0 :: st) w = if x0 < x1 then pm_ev 134 20 pl st w else pm_ev 134 36 pl st w := pm_nin (c := x1 ≤ x0) pt_134 d134_17 rfl rfl rfl pm_ge
theorem d134_20 : decode cX6_weightOf 20 = .ok (.lload_n 3, 1) := by decide +kernel
theorem z134_20 {st : List Value} {w : pm_H} {b0 b1 b2 b4 b5 : Option Value} {x0 : Int64} : pm_ev 134 20 [b0, b1, b2, some (.long x0), b4, b5] st w = pm_ev 134 21 [b0, b1, b2, some (.long x0), b4, b5] (.long x0 :: st) w := pm_ny pt_134 d134_20 rfl rfl rfl
theorem d134_21 : decode cX6_weightOf 21 = .ok (.aload_n 0, 1) := by decide +kernel
theorem z134_21 {st : List Value} {w : pm_H} {b1 b2 b3 b4 b5 : Option Value} {x0 : Nat} : pm_ev 134 21 [some (.ref x0), b1, b2, b3, b4, b5] st w = pm_ev 134 22 [some (.ref x0), b1, b2, b3, b4, b5] (.ref x0 :: st) w := pm_ny pt_134 d134_21 rfl rfl rfl
theorem d134_22 : decode cX6_weightOf 22 = .ok (.iload 5, 2) := by decide +kernel
theorem z134_22 {st : List Value} {w : pm_H} {b0 b1 b2 b3 b4 : Option Value} {x0 : Int32} : pm_ev 134 22 [b0, b1, b2, b3, b4, some (.int x0)] st w = pm_ev 134 24 [b0, b1, b2, b3, b4, some (.int x0)] (.int x0 :: st) w := pm_ny pt_134 d134_22 rfl rfl rfl
theorem d134_24 : decode cX6_weightOf 24 = .ok (.invokevirtual 185, 3) := by decide +kernel
theorem z134_24 {w : pm_H} {b0 b1 b2 b3 b4 b5 : Option Value} {x0 : Int32} {x1 : Nat} {x2 : Int64} : pm_ev 134 24 [b0, b1, b2, b3, b4, b5] [.int x0, .ref x1, .long x2] w = pm_k 134 27 [b0, b1, b2, b3, b4, b5] [.long x2] (pm_vc (w x1) 6 (pm_call 122 [.ref x1, .int x0] w)) := pm_nv pt_134 pt_122 pt_M_6_185 d134_24 ⟨rfl, rfl⟩ ⟨⟨rfl, Nat.le_of_ble_eq_true rfl, Nat.le_of_ble_eq_true rfl, Nat.le_of_ble_eq_true rfl, Nat.le_of_ble_eq_true rfl⟩, rfl⟩
theorem d134_27 : decode cX6_weightOf 27 = .ok (.i2l, 1) := by decide +kernel
theorem z134_27 {st : List Value} {w : pm_H} {pl : pm_L} {x0 : Int32} : pm_ev 134 27 pl (.int x0 :: st) w = pm_ev 134 28 pl (.long x0.toInt64 :: st) w := pm_ny pt_134 d134_27 rfl rfl rfl
theorem d134_28 : decode cX6_weightOf 28 = .ok (.ladd, 1) := by decide +kernel
theorem z134_28 {st : List Value} {w : pm_H} {pl : pm_L} {x0 x1 : Int64} : pm_ev 134 28 pl (.long x1 :: .long x0 :: st) w = pm_ev 134 29 pl (.long (x0 + x1) :: st) w := pm_ny pt_134 d134_28 rfl rfl rfl
theorem d134_29 : decode cX6_weightOf 29 = .ok (.lstore_n 3, 1) := by decide +kernel
theorem z134_29 {st : List Value} {w : pm_H} {b0 b1 b3 b4 b5 : Option Value} {x0 : Int64} {x9 : Int32} : pm_ev 134 29 [b0, b1, some (.int x9), b3, b4, b5] (.long x0 :: st) w = pm_ev 134 30 [b0, b1, some (.int x9), some (.long x0), none, b5] st w := pm_ny pt_134 d134_29 rfl rfl rfl
theorem d134_30 : decode cX6_weightOf 30 = .ok (.iinc 5 1, 3) := by decide +kernel
theorem z134_30 {st : List Value} {w : pm_H} {b0 b1 b2 b3 : Option Value} {x0 : Int32} : pm_ev 134 30 [b0, b1, b2, b3, none, some (.int x0)] st w = pm_ev 134 33 [b0, b1, b2, b3, none, some (.int (x0 + 1))] st w := pm_ny pt_134 d134_30 rfl rfl rfl
theorem d134_33 : decode cX6_weightOf 33 = .ok (.goto (-25), 3) := by decide +kernel
theorem z134_33 {st : List Value} {w : pm_H} {pl : pm_L} : pm_ev 134 33 pl st w = pm_ev 134 8 pl st w := pm_ny pt_134 d134_33 rfl rfl rfl
theorem d134_36 : decode cX6_weightOf 36 = .ok (.lload_n 3, 1) := by decide +kernel
theorem z134_36 {st : List Value} {w : pm_H} {b0 b1 b2 b4 b5 : Option Value} {x0 : Int64} : pm_ev 134 36 [b0, b1, b2, some (.long x0), b4, b5] st w = pm_ev 134 37 [b0, b1, b2, some (.long x0), b4, b5] (.long x0 :: st) w := pm_ny pt_134 d134_36 rfl rfl rfl
theorem d134_37 : decode cX6_weightOf 37 = .ok (.lreturn, 1) := by decide +kernel
theorem z134_37 {w : pm_H} {pl : pm_L} {x0 : Int64} : pm_ev 134 37 pl [.long x0] w = some (some (.long x0), w) := pm_nr pt_134 d134_37 rfl
theorem d135_0 : decode cX6_adds 0 = .ok (.aload_n 0, 1) := by decide +kernel
theorem z135_0 {st : List Value} {w : pm_H} {b1 b2 b3 b4 : Option Value} {x0 : Nat} : pm_ev 135 0 [some (.ref x0), b1, b2, b3, b4] st w = pm_ev 135 1 [some (.ref x0), b1, b2, b3, b4] (.ref x0 :: st) w := pm_ny pt_135 d135_0 rfl rfl rfl
theorem d135_1 : decode cX6_adds 1 = .ok (.iconst 0, 1) := by decide +kernel
theorem z135_1 {st : List Value} {w : pm_H} {pl : pm_L} : pm_ev 135 1 pl st w = pm_ev 135 2 pl (.int 0 :: st) w := pm_ny pt_135 d135_1 rfl rfl rfl
theorem d135_2 : decode cX6_adds 2 = .ok (.putfield 1, 3) := by decide +kernel
theorem z135_2 {st : List Value} {w : pm_H} {pl : pm_L} {x0 : Nat} {x1 : Int32} : pm_ev 135 2 pl (.int x1 :: .ref x0 :: st) w = pm_kw 135 5 pl st (pm_pf w x0 (w x0) 6 0 0 (.int x1)) := pm_np pt_135 pt_F_6_1 d135_2
theorem d135_5 : decode cX6_adds 5 = .ok (.iload_n 2, 1) := by decide +kernel
theorem z135_5 {st : List Value} {w : pm_H} {b0 b1 b3 b4 : Option Value} {x0 : Int32} : pm_ev 135 5 [b0, b1, some (.int x0), b3, b4] st w = pm_ev 135 6 [b0, b1, some (.int x0), b3, b4] (.int x0 :: st) w := pm_ny pt_135 d135_5 rfl rfl rfl
theorem d135_6 : decode cX6_adds 6 = .ok (.iload_n 3, 1) := by decide +kernel
theorem z135_6 {st : List Value} {w : pm_H} {b0 b1 b2 b4 : Option Value} {x0 : Int32} : pm_ev 135 6 [b0, b1, b2, some (.int x0), b4] st w = pm_ev 135 7 [b0, b1, b2, some (.int x0), b4] (.int x0 :: st) w := pm_ny pt_135 d135_6 rfl rfl rfl
theorem d135_7 : decode cX6_adds 7 = .ok (.invokestatic 217, 3) := by decide +kernel
theorem z135_7 {w : pm_H} {b0 b1 b2 b3 b4 : Option Value} {x0 : Int32} {x1 : Int32} : pm_ev 135 7 [b0, b1, b2, b3, b4] [.int x0, .int x1] w = pm_k 135 10 [b0, b1, b2, b3, b4] [] (pm_call 133 [.int x1, .int x0] w) := pm_ns pt_135 pt_133 pt_M_6_217 (Or.inl rfl) d135_7 ⟨rfl, rfl⟩ ⟨⟨rfl, Nat.le_of_ble_eq_true rfl, Nat.le_of_ble_eq_true rfl, Nat.le_of_ble_eq_true rfl, Nat.le_of_ble_eq_true rfl⟩, rfl⟩
theorem d135_10 : decode cX6_adds 10 = .ok (.ifCond .eq 11, 3) := by decide +kernel
theorem z135_10 {st : List Value} {w : pm_H} {pl : pm_L} {x0 : Int32} : pm_ev 135 10 pl (.int x0 :: st) w = if x0 = 0 then pm_ev 135 21 pl st w else pm_ev 135 13 pl st w := pm_nif pt_135 d135_10 rfl rfl rfl
theorem d135_13 : decode cX6_adds 13 = .ok (.aload_n 0, 1) := by decide +kernel
theorem z135_13 {st : List Value} {w : pm_H} {b1 b2 b3 b4 : Option Value} {x0 : Nat} : pm_ev 135 13 [some (.ref x0), b1, b2, b3, b4] st w = pm_ev 135 14 [some (.ref x0), b1, b2, b3, b4] (.ref x0 :: st) w := pm_ny pt_135 d135_13 rfl rfl rfl
theorem d135_14 : decode cX6_adds 14 = .ok (.iload_n 1, 1) := by decide +kernel
theorem z135_14 {st : List Value} {w : pm_H} {b0 b2 b3 b4 : Option Value} {x0 : Int32} : pm_ev 135 14 [b0, some (.int x0), b2, b3, b4] st w = pm_ev 135 15 [b0, some (.int x0), b2, b3, b4] (.int x0 :: st) w := pm_ny pt_135 d135_14 rfl rfl rfl
theorem d135_15 : decode cX6_adds 15 = .ok (.invokevirtual 195, 3) := by decide +kernel
theorem z135_15 {w : pm_H} {b0 b1 b2 b3 b4 : Option Value} {x0 : Int32} {x1 : Nat} : pm_ev 135 15 [b0, b1, b2, b3, b4] [.int x0, .ref x1] w = pm_k 135 18 [b0, b1, b2, b3, b4] [] (pm_vc (w x1) 6 (pm_call 129 [.ref x1, .int x0] w)) := pm_nv pt_135 pt_129 pt_M_6_195 d135_15 ⟨rfl, rfl⟩ ⟨⟨rfl, Nat.le_of_ble_eq_true rfl, Nat.le_of_ble_eq_true rfl, Nat.le_of_ble_eq_true rfl, Nat.le_of_ble_eq_true rfl⟩, rfl⟩
theorem d135_18 : decode cX6_adds 18 = .ok (.ifCond .ne 9, 3) := by decide +kernel
theorem z135_18 {st : List Value} {w : pm_H} {pl : pm_L} {x0 : Int32} : pm_ev 135 18 pl (.int x0 :: st) w = if x0 = 0 then pm_ev 135 21 pl st w else pm_ev 135 27 pl st w := pm_nin (c := ¬ x0 = 0) pt_135 d135_18 rfl rfl rfl Iff.rfl
theorem d135_21 : decode cX6_adds 21 = .ok (.aload_n 0, 1) := by decide +kernel
theorem z135_21 {st : List Value} {w : pm_H} {b1 b2 b3 b4 : Option Value} {x0 : Nat} : pm_ev 135 21 [some (.ref x0), b1, b2, b3, b4] st w = pm_ev 135 22 [some (.ref x0), b1, b2, b3, b4] (.ref x0 :: st) w := pm_ny pt_135 d135_21 rfl rfl rfl
theorem d135_22 : decode cX6_adds 22 = .ok (.invokevirtual 191, 3) := by decide +kernel
theorem z135_22 {w : pm_H} {b0 b1 b2 b3 b4 : Option Value} {x0 : Nat} : pm_ev 135 22 [b0, b1, b2, b3, b4] [.ref x0] w = pm_k 135 25 [b0, b1, b2, b3, b4] [] (pm_vc (w x0) 6 (pm_call 126 [.ref x0] w)) := pm_nv pt_135 pt_126 pt_M_6_191 d135_22 ⟨rfl, rfl⟩ ⟨⟨rfl, Nat.le_of_ble_eq_true rfl, Nat.le_of_ble_eq_true rfl, Nat.le_of_ble_eq_true rfl, Nat.le_of_ble_eq_true rfl⟩, rfl⟩
theorem d135_25 : decode cX6_adds 25 = .ok (.i2l, 1) := by decide +kernel
theorem z135_25 {st : List Value} {w : pm_H} {pl : pm_L} {x0 : Int32} : pm_ev 135 25 pl (.int x0 :: st) w = pm_ev 135 26 pl (.long x0.toInt64 :: st) w := pm_ny pt_135 d135_25 rfl rfl rfl
theorem d135_26 : decode cX6_adds 26 = .ok (.lreturn, 1) := by decide +kernel
theorem z135_26 {w : pm_H} {pl : pm_L} {x0 : Int64} : pm_ev 135 26 pl [.long x0] w = some (some (.long x0), w) := pm_nr pt_135 d135_26 rfl
theorem d135_27 : decode cX6_adds 27 = .ok (.iload 4, 2) := by decide +kernel
theorem z135_27 {st : List Value} {w : pm_H} {b0 b1 b2 b3 : Option Value} {x0 : Int32} : pm_ev 135 27 [b0, b1, b2, b3, some (.int x0)] st w = pm_ev 135 29 [b0, b1, b2, b3, some (.int x0)] (.int x0 :: st) w := pm_ny pt_135 d135_27 rfl rfl rfl
theorem d135_29 : decode cX6_adds 29 = .ok (.ifCond .eq 13, 3) := by decide +kernel
theorem z135_29 {st : List Value} {w : pm_H} {pl : pm_L} {x0 : Int32} : pm_ev 135 29 pl (.int x0 :: st) w = if x0 = 0 then pm_ev 135 42 pl st w else pm_ev 135 32 pl st w := pm_nif pt_135 d135_29 rfl rfl rfl
theorem d135_32 : decode cX6_adds 32 = .ok (.aload_n 0, 1) := by decide +kernel
theorem z135_32 {st : List Value} {w : pm_H} {b1 b2 b3 b4 : Option Value} {x0 : Nat} : pm_ev 135 32 [some (.ref x0), b1, b2, b3, b4] st w = pm_ev 135 33 [some (.ref x0), b1, b2, b3, b4] (.ref x0 :: st) w := pm_ny pt_135 d135_32 rfl rfl rfl
theorem d135_33 : decode cX6_adds 33 = .ok (.iload_n 1, 1) := by decide +kernel
theorem z135_33 {st : List Value} {w : pm_H} {b0 b2 b3 b4 : Option Value} {x0 : Int32} : pm_ev 135 33 [b0, some (.int x0), b2, b3, b4] st w = pm_ev 135 34 [b0, some (.int x0), b2, b3, b4] (.int x0 :: st) w := pm_ny pt_135 d135_33 rfl rfl rfl
theorem d135_34 : decode cX6_adds 34 = .ok (.iload_n 2, 1) := by decide +kernel
theorem z135_34 {st : List Value} {w : pm_H} {b0 b1 b3 b4 : Option Value} {x0 : Int32} : pm_ev 135 34 [b0, b1, some (.int x0), b3, b4] st w = pm_ev 135 35 [b0, b1, some (.int x0), b3, b4] (.int x0 :: st) w := pm_ny pt_135 d135_34 rfl rfl rfl
theorem d135_35 : decode cX6_adds 35 = .ok (.iload_n 3, 1) := by decide +kernel
theorem z135_35 {st : List Value} {w : pm_H} {b0 b1 b2 b4 : Option Value} {x0 : Int32} : pm_ev 135 35 [b0, b1, b2, some (.int x0), b4] st w = pm_ev 135 36 [b0, b1, b2, some (.int x0), b4] (.int x0 :: st) w := pm_ny pt_135 d135_35 rfl rfl rfl
theorem d135_36 : decode cX6_adds 36 = .ok (.invokevirtual 224, 3) := by decide +kernel
theorem z135_36 {w : pm_H} {b0 b1 b2 b3 b4 : Option Value} {x0 : Int32} {x1 : Int32} {x2 : Int32} {x3 : Nat} : pm_ev 135 36 [b0, b1, b2, b3, b4] [.int x0, .int x1, .int x2, .ref x3] w = pm_k 135 39 [b0, b1, b2, b3, b4] [] (pm_vc (w x3) 6 (pm_call 136 [.ref x3, .int x2, .int x1, .int x0] w)) := pm_nv pt_135 pt_136 pt_M_6_224 d135_36 ⟨rfl, rfl⟩ ⟨⟨rfl, Nat.le_of_ble_eq_true rfl, Nat.le_of_ble_eq_true rfl, Nat.le_of_ble_eq_true rfl, Nat.le_of_ble_eq_true rfl⟩, rfl⟩
theorem d135_39 : decode cX6_adds 39 = .ok (.goto 10, 3) := by decide +kernel
theorem z135_39 {st : List Value} {w : pm_H} {pl : pm_L} : pm_ev 135 39 pl st w = pm_ev 135 49 pl st w := pm_ny pt_135 d135_39 rfl rfl rfl
theorem d135_42 : decode cX6_adds 42 = .ok (.aload_n 0, 1) := by decide +kernel
theorem z135_42 {st : List Value} {w : pm_H} {b1 b2 b3 b4 : Option Value} {x0 : Nat} : pm_ev 135 42 [some (.ref x0), b1, b2, b3, b4] st w = pm_ev 135 43 [some (.ref x0), b1, b2, b3, b4] (.ref x0 :: st) w := pm_ny pt_135 d135_42 rfl rfl rfl
theorem d135_43 : decode cX6_adds 43 = .ok (.iload_n 1, 1) := by decide +kernel
theorem z135_43 {st : List Value} {w : pm_H} {b0 b2 b3 b4 : Option Value} {x0 : Int32} : pm_ev 135 43 [b0, some (.int x0), b2, b3, b4] st w = pm_ev 135 44 [b0, some (.int x0), b2, b3, b4] (.int x0 :: st) w := pm_ny pt_135 d135_43 rfl rfl rfl
theorem d135_44 : decode cX6_adds 44 = .ok (.iload_n 2, 1) := by decide +kernel
theorem z135_44 {st : List Value} {w : pm_H} {b0 b1 b3 b4 : Option Value} {x0 : Int32} : pm_ev 135 44 [b0, b1, some (.int x0), b3, b4] st w = pm_ev 135 45 [b0, b1, some (.int x0), b3, b4] (.int x0 :: st) w := pm_ny pt_135 d135_44 rfl rfl rfl
theorem d135_45 : decode cX6_adds 45 = .ok (.iload_n 3, 1) := by decide +kernel
theorem z135_45 {st : List Value} {w : pm_H} {b0 b1 b2 b4 : Option Value} {x0 : Int32} : pm_ev 135 45 [b0, b1, b2, some (.int x0), b4] st w = pm_ev 135 46 [b0, b1, b2, some (.int x0), b4] (.int x0 :: st) w := pm_ny pt_135 d135_45 rfl rfl rfl
theorem d135_46 : decode cX6_adds 46 = .ok (.invokevirtual 227, 3) := by decide +kernel
theorem z135_46 {w : pm_H} {b0 b1 b2 b3 b4 : Option Value} {x0 : Int32} {x1 : Int32} {x2 : Int32} {x3 : Nat} : pm_ev 135 46 [b0, b1, b2, b3, b4] [.int x0, .int x1, .int x2, .ref x3] w = pm_k 135 49 [b0, b1, b2, b3, b4] [] (pm_vc (w x3) 6 (pm_call 138 [.ref x3, .int x2, .int x1, .int x0] w)) := pm_nv pt_135 pt_138 pt_M_6_227 d135_46 ⟨rfl, rfl⟩ ⟨⟨rfl, Nat.le_of_ble_eq_true rfl, Nat.le_of_ble_eq_true rfl, Nat.le_of_ble_eq_true rfl, Nat.le_of_ble_eq_true rfl⟩, rfl⟩
theorem d135_49 : decode cX6_adds 49 = .ok (.lreturn, 1) := by decide +kernel
theorem z135_49 {w : pm_H} {pl : pm_L} {x0 : Int64} : pm_ev 135 49 pl [.long x0] w = some (some (.long x0), w) := pm_nr pt_135 d135_49 rfl
theorem d136_0 : decode cX6_addsEarnings 0 = .ok (.aload_n 0, 1) := by decide +kernel
theorem z136_0 {st : List Value} {w : pm_H} {b1 b2 b3 : Option Value} {x0 : Nat} : pm_ev 136 0 [some (.ref x0), b1, b2, b3] st w = pm_ev 136 1 [some (.ref x0), b1, b2, b3] (.ref x0 :: st) w := pm_ny pt_136 d136_0 rfl rfl rfl
theorem d136_1 : decode cX6_addsEarnings 1 = .ok (.iload_n 1, 1) := by decide +kernel
theorem z136_1 {st : List Value} {w : pm_H} {b0 b2 b3 : Option Value} {x0 : Int32} : pm_ev 136 1 [b0, some (.int x0), b2, b3] st w = pm_ev 136 2 [b0, some (.int x0), b2, b3] (.int x0 :: st) w := pm_ny pt_136 d136_1 rfl rfl rfl
theorem d136_2 : decode cX6_addsEarnings 2 = .ok (.iconst 0, 1) := by decide +kernel
theorem z136_2 {st : List Value} {w : pm_H} {pl : pm_L} : pm_ev 136 2 pl st w = pm_ev 136 3 pl (.int 0 :: st) w := pm_ny pt_136 d136_2 rfl rfl rfl
theorem d136_3 : decode cX6_addsEarnings 3 = .ok (.invokevirtual 179, 3) := by decide +kernel
theorem z136_3 {w : pm_H} {b0 b1 b2 b3 : Option Value} {x0 : Int32} {x1 : Int32} {x2 : Nat} : pm_ev 136 3 [b0, b1, b2, b3] [.int x0, .int x1, .ref x2] w = pm_k 136 6 [b0, b1, b2, b3] [] (pm_vc (w x2) 6 (pm_call 131 [.ref x2, .int x1, .int x0] w)) := pm_nv pt_136 pt_131 pt_M_6_179 d136_3 ⟨rfl, rfl⟩ ⟨⟨rfl, Nat.le_of_ble_eq_true rfl, Nat.le_of_ble_eq_true rfl, Nat.le_of_ble_eq_true rfl, Nat.le_of_ble_eq_true rfl⟩, rfl⟩
theorem d136_6 : decode cX6_addsEarnings 6 = .ok (.iconst 1, 1) := by decide +kernel
theorem z136_6 {st : List Value} {w : pm_H} {pl : pm_L} : pm_ev 136 6 pl st w = pm_ev 136 7 pl (.int 1 :: st) w := pm_ny pt_136 d136_6 rfl rfl rfl
theorem d136_7 : decode cX6_addsEarnings 7 = .ok (.if_icmp .ne 26, 3) := by decide +kernel
theorem z136_7 {st : List Value} {w : pm_H} {pl : pm_L} {x0 x1 : Int32} : pm_ev 136 7 pl (.int x1 :: .int x0 :: st) w = if x0 = x1 then pm_ev 136 10 pl st w else pm_ev 136 33 pl st w := pm_nin (c := ¬ x0 = x1) pt_136 d136_7 rfl rfl rfl Iff.rfl
theorem d136_10 : decode cX6_addsEarnings 10 = .ok (.aload_n 0, 1) := by decide +kernel
theorem z136_10 {st : List Value} {w : pm_H} {b1 b2 b3 : Option Value} {x0 : Nat} : pm_ev 136 10 [some (.ref x0), b1, b2, b3] st w = pm_ev 136 11 [some (.ref x0), b1, b2, b3] (.ref x0 :: st) w := pm_ny pt_136 d136_10 rfl rfl rfl
theorem d136_11 : decode cX6_addsEarnings 11 = .ok (.iload_n 1, 1) := by decide +kernel
theorem z136_11 {st : List Value} {w : pm_H} {b0 b2 b3 : Option Value} {x0 : Int32} : pm_ev 136 11 [b0, some (.int x0), b2, b3] st w = pm_ev 136 12 [b0, some (.int x0), b2, b3] (.int x0 :: st) w := pm_ny pt_136 d136_11 rfl rfl rfl
theorem d136_12 : decode cX6_addsEarnings 12 = .ok (.iconst 3, 1) := by decide +kernel
theorem z136_12 {st : List Value} {w : pm_H} {pl : pm_L} : pm_ev 136 12 pl st w = pm_ev 136 13 pl (.int 3 :: st) w := pm_ny pt_136 d136_12 rfl rfl rfl
theorem d136_13 : decode cX6_addsEarnings 13 = .ok (.invokevirtual 179, 3) := by decide +kernel
theorem z136_13 {w : pm_H} {b0 b1 b2 b3 : Option Value} {x0 : Int32} {x1 : Int32} {x2 : Nat} : pm_ev 136 13 [b0, b1, b2, b3] [.int x0, .int x1, .ref x2] w = pm_k 136 16 [b0, b1, b2, b3] [] (pm_vc (w x2) 6 (pm_call 131 [.ref x2, .int x1, .int x0] w)) := pm_nv pt_136 pt_131 pt_M_6_179 d136_13 ⟨rfl, rfl⟩ ⟨⟨rfl, Nat.le_of_ble_eq_true rfl, Nat.le_of_ble_eq_true rfl, Nat.le_of_ble_eq_true rfl, Nat.le_of_ble_eq_true rfl⟩, rfl⟩
theorem d136_16 : decode cX6_addsEarnings 16 = .ok (.i2l, 1) := by decide +kernel
theorem z136_16 {st : List Value} {w : pm_H} {pl : pm_L} {x0 : Int32} : pm_ev 136 16 pl (.int x0 :: st) w = pm_ev 136 17 pl (.long x0.toInt64 :: st) w := pm_ny pt_136 d136_16 rfl rfl rfl
theorem d136_17 : decode cX6_addsEarnings 17 = .ok (.aload_n 0, 1) := by decide +kernel
theorem z136_17 {st : List Value} {w : pm_H} {b1 b2 b3 : Option Value} {x0 : Nat} : pm_ev 136 17 [some (.ref x0), b1, b2, b3] st w = pm_ev 136 18 [some (.ref x0), b1, b2, b3] (.ref x0 :: st) w := pm_ny pt_136 d136_17 rfl rfl rfl
theorem d136_18 : decode cX6_addsEarnings 18 = .ok (.iload_n 1, 1) := by decide +kernel
theorem z136_18 {st : List Value} {w : pm_H} {b0 b2 b3 : Option Value} {x0 : Int32} : pm_ev 136 18 [b0, some (.int x0), b2, b3] st w = pm_ev 136 19 [b0, some (.int x0), b2, b3] (.int x0 :: st) w := pm_ny pt_136 d136_18 rfl rfl rfl
theorem d136_19 : decode cX6_addsEarnings 19 = .ok (.iload_n 2, 1) := by decide +kernel
theorem z136_19 {st : List Value} {w : pm_H} {b0 b1 b3 : Option Value} {x0 : Int32} : pm_ev 136 19 [b0, b1, some (.int x0), b3] st w = pm_ev 136 20 [b0, b1, some (.int x0), b3] (.int x0 :: st) w := pm_ny pt_136 d136_19 rfl rfl rfl
theorem d136_20 : decode cX6_addsEarnings 20 = .ok (.iload_n 3, 1) := by decide +kernel
theorem z136_20 {st : List Value} {w : pm_H} {b0 b1 b2 : Option Value} {x0 : Int32} : pm_ev 136 20 [b0, b1, b2, some (.int x0)] st w = pm_ev 136 21 [b0, b1, b2, some (.int x0)] (.int x0 :: st) w := pm_ny pt_136 d136_20 rfl rfl rfl
theorem d136_21 : decode cX6_addsEarnings 21 = .ok (.invokevirtual 204, 3) := by decide +kernel
theorem z136_21 {w : pm_H} {b0 b1 b2 b3 : Option Value} {x0 : Int32} {x1 : Int32} {x2 : Int32} {x3 : Nat} {x4 : Int64} : pm_ev 136 21 [b0, b1, b2, b3] [.int x0, .int x1, .int x2, .ref x3, .long x4] w = pm_k 136 24 [b0, b1, b2, b3] [.long x4] (pm_vc (w x3) 6 (pm_call 137 [.ref x3, .int x2, .int x1, .int x0] w)) := pm_nv pt_136 pt_137 pt_M_6_204 d136_21 ⟨rfl, rfl⟩ ⟨⟨rfl, Nat.le_of_ble_eq_true rfl, Nat.le_of_ble_eq_true rfl, Nat.le_of_ble_eq_true rfl, Nat.le_of_ble_eq_true rfl⟩, rfl⟩
theorem d136_24 : decode cX6_addsEarnings 24 = .ok (.i2l, 1) := by decide +kernel
theorem z136_24 {st : List Value} {w : pm_H} {pl : pm_L} {x0 : Int32} : pm_ev 136 24 pl (.int x0 :: st) w = pm_ev 136 25 pl (.long x0.toInt64 :: st) w := pm_ny pt_136 d136_24 rfl rfl rfl
theorem d136_25 : decode cX6_addsEarnings 25 = .ok (.lmul, 1) := by decide +kernel
theorem z136_25 {st : List Value} {w : pm_H} {pl : pm_L} {x0 x1 : Int64} : pm_ev 136 25 pl (.long x1 :: .long x0 :: st) w = pm_ev 136 26 pl (.long (x0 * x1) :: st) w := pm_ny pt_136 d136_25 rfl rfl rfl
theorem d136_26 : decode cX6_addsEarnings 26 = .ok (.ldc2_w 215, 3) := by decide +kernel
theorem z136_26 {st : List Value} {w : pm_H} {pl : pm_L} : pm_ev 136 26 pl st w = pm_ev 136 29 pl (.long (360) :: st) w := pm_nk2 pt_136 pt_K_6_215 rfl d136_26
theorem d136_29 : decode cX6_addsEarnings 29 = .ok (.ldiv, 1) := by decide +kernel
theorem z136_29 {st : List Value} {w : pm_H} {pl : pm_L} {x0 x1 : Int64} : pm_ev 136 29 pl (.long x1 :: .long x0 :: st) w = pm_kv 136 30 pl st w (pm_dv x0 x1) := pm_nd pt_136 d136_29
theorem d136_30 : decode cX6_addsEarnings 30 = .ok (.goto 4, 3) := by decide +kernel
theorem z136_30 {st : List Value} {w : pm_H} {pl : pm_L} : pm_ev 136 30 pl st w = pm_ev 136 34 pl st w := pm_ny pt_136 d136_30 rfl rfl rfl
theorem d136_33 : decode cX6_addsEarnings 33 = .ok (.lconst 0, 1) := by decide +kernel
theorem z136_33 {st : List Value} {w : pm_H} {pl : pm_L} : pm_ev 136 33 pl st w = pm_ev 136 34 pl (.long 0 :: st) w := pm_ny pt_136 d136_33 rfl rfl rfl
theorem d136_34 : decode cX6_addsEarnings 34 = .ok (.lreturn, 1) := by decide +kernel
theorem z136_34 {w : pm_H} {pl : pm_L} {x0 : Int64} : pm_ev 136 34 pl [.long x0] w = some (some (.long x0), w) := pm_nr pt_136 d136_34 rfl
theorem d137_0 : decode cX6_counts 0 = .ok (.bipush 90, 2) := by decide +kernel
theorem z137_0 {st : List Value} {w : pm_H} {pl : pm_L} : pm_ev 137 0 pl st w = pm_ev 137 2 pl (.int 90 :: st) w := pm_ny pt_137 d137_0 rfl rfl rfl
theorem d137_2 : decode cX6_counts 2 = .ok (.iload_n 2, 1) := by decide +kernel
theorem z137_2 {st : List Value} {w : pm_H} {b0 b1 b3 b4 b5 : Option Value} {x0 : Int32} : pm_ev 137 2 [b0, b1, some (.int x0), b3, b4, b5] st w = pm_ev 137 3 [b0, b1, some (.int x0), b3, b4, b5] (.int x0 :: st) w := pm_ny pt_137 d137_2 rfl rfl rfl
theorem d137_3 : decode cX6_counts 3 = .ok (.imul, 1) := by decide +kernel
theorem z137_3 {st : List Value} {w : pm_H} {pl : pm_L} {x0 x1 : Int32} : pm_ev 137 3 pl (.int x1 :: .int x0 :: st) w = pm_ev 137 4 pl (.int (x0 * x1) :: st) w := pm_ny pt_137 d137_3 rfl rfl rfl
theorem d137_4 : decode cX6_counts 4 = .ok (.aload_n 0, 1) := by decide +kernel
theorem z137_4 {st : List Value} {w : pm_H} {b1 b2 b3 b4 b5 : Option Value} {x0 : Nat} : pm_ev 137 4 [some (.ref x0), b1, b2, b3, b4, b5] st w = pm_ev 137 5 [some (.ref x0), b1, b2, b3, b4, b5] (.ref x0 :: st) w := pm_ny pt_137 d137_4 rfl rfl rfl
theorem d137_5 : decode cX6_counts 5 = .ok (.iload_n 1, 1) := by decide +kernel
theorem z137_5 {st : List Value} {w : pm_H} {b0 b2 b3 b4 b5 : Option Value} {x0 : Int32} : pm_ev 137 5 [b0, some (.int x0), b2, b3, b4, b5] st w = pm_ev 137 6 [b0, some (.int x0), b2, b3, b4, b5] (.int x0 :: st) w := pm_ny pt_137 d137_5 rfl rfl rfl
theorem d137_6 : decode cX6_counts 6 = .ok (.iconst 1, 1) := by decide +kernel
theorem z137_6 {st : List Value} {w : pm_H} {pl : pm_L} : pm_ev 137 6 pl st w = pm_ev 137 7 pl (.int 1 :: st) w := pm_ny pt_137 d137_6 rfl rfl rfl
theorem d137_7 : decode cX6_counts 7 = .ok (.invokevirtual 179, 3) := by decide +kernel
theorem z137_7 {w : pm_H} {b0 b1 b2 b3 b4 b5 : Option Value} {x0 : Int32} {x1 : Int32} {x2 : Nat} {x3 : Int32} : pm_ev 137 7 [b0, b1, b2, b3, b4, b5] [.int x0, .int x1, .ref x2, .int x3] w = pm_k 137 10 [b0, b1, b2, b3, b4, b5] [.int x3] (pm_vc (w x2) 6 (pm_call 131 [.ref x2, .int x1, .int x0] w)) := pm_nv pt_137 pt_131 pt_M_6_179 d137_7 ⟨rfl, rfl⟩ ⟨⟨rfl, Nat.le_of_ble_eq_true rfl, Nat.le_of_ble_eq_true rfl, Nat.le_of_ble_eq_true rfl, Nat.le_of_ble_eq_true rfl⟩, rfl⟩
theorem d137_10 : decode cX6_counts 10 = .ok (.if_icmp .le 10, 3) := by decide +kernel
theorem z137_10 {st : List Value} {w : pm_H} {pl : pm_L} {x0 x1 : Int32} : pm_ev 137 10 pl (.int x1 :: .int x0 :: st) w = if x1 < x0 then pm_ev 137 13 pl st w else pm_ev 137 20 pl st w := pm_nin (c := x0 ≤ x1) pt_137 d137_10 rfl rfl rfl pm_ge
theorem d137_13 : decode cX6_counts 13 = .ok (.bipush 90, 2) := by decide +kernel
theorem z137_13 {st : List Value} {w : pm_H} {pl : pm_L} : pm_ev 137 13 pl st w = pm_ev 137 15 pl (.int 90 :: st) w := pm_ny pt_137 d137_13 rfl rfl rfl
theorem d137_15 : decode cX6_counts 15 = .ok (.iload_n 2, 1) := by decide +kernel
theorem z137_15 {st : List Value} {w : pm_H} {b0 b1 b3 b4 b5 : Option Value} {x0 : Int32} : pm_ev 137 15 [b0, b1, some (.int x0), b3, b4, b5] st w = pm_ev 137 16 [b0, b1, some (.int x0), b3, b4, b5] (.int x0 :: st) w := pm_ny pt_137 d137_15 rfl rfl rfl
theorem d137_16 : decode cX6_counts 16 = .ok (.imul, 1) := by decide +kernel
theorem z137_16 {st : List Value} {w : pm_H} {pl : pm_L} {x0 x1 : Int32} : pm_ev 137 16 pl (.int x1 :: .int x0 :: st) w = pm_ev 137 17 pl (.int (x0 * x1) :: st) w := pm_ny pt_137 d137_16 rfl rfl rfl
theorem d137_17 : decode cX6_counts 17 = .ok (.goto 9, 3) := by decide +kernel
theorem z137_17 {st : List Value} {w : pm_H} {pl : pm_L} : pm_ev 137 17 pl st w = pm_ev 137 26 pl st w := pm_ny pt_137 d137_17 rfl rfl rfl
theorem d137_20 : decode cX6_counts 20 = .ok (.aload_n 0, 1) := by decide +kernel
theorem z137_20 {st : List Value} {w : pm_H} {b1 b2 b3 b4 b5 : Option Value} {x0 : Nat} : pm_ev 137 20 [some (.ref x0), b1, b2, b3, b4, b5] st w = pm_ev 137 21 [some (.ref x0), b1, b2, b3, b4, b5] (.ref x0 :: st) w := pm_ny pt_137 d137_20 rfl rfl rfl
theorem d137_21 : decode cX6_counts 21 = .ok (.iload_n 1, 1) := by decide +kernel
theorem z137_21 {st : List Value} {w : pm_H} {b0 b2 b3 b4 b5 : Option Value} {x0 : Int32} : pm_ev 137 21 [b0, some (.int x0), b2, b3, b4, b5] st w = pm_ev 137 22 [b0, some (.int x0), b2, b3, b4, b5] (.int x0 :: st) w := pm_ny pt_137 d137_21 rfl rfl rfl
theorem d137_22 : decode cX6_counts 22 = .ok (.iconst 1, 1) := by decide +kernel
theorem z137_22 {st : List Value} {w : pm_H} {pl : pm_L} : pm_ev 137 22 pl st w = pm_ev 137 23 pl (.int 1 :: st) w := pm_ny pt_137 d137_22 rfl rfl rfl
theorem d137_23 : decode cX6_counts 23 = .ok (.invokevirtual 179, 3) := by decide +kernel
theorem z137_23 {w : pm_H} {b0 b1 b2 b3 b4 b5 : Option Value} {x0 : Int32} {x1 : Int32} {x2 : Nat} : pm_ev 137 23 [b0, b1, b2, b3, b4, b5] [.int x0, .int x1, .ref x2] w = pm_k 137 26 [b0, b1, b2, b3, b4, b5] [] (pm_vc (w x2) 6 (pm_call 131 [.ref x2, .int x1, .int x0] w)) := pm_nv pt_137 pt_131 pt_M_6_179 d137_23 ⟨rfl, rfl⟩ ⟨⟨rfl, Nat.le_of_ble_eq_true rfl, Nat.le_of_ble_eq_true rfl, Nat.le_of_ble_eq_true rfl, Nat.le_of_ble_eq_true rfl⟩, rfl⟩
theorem d137_26 : decode cX6_counts 26 = .ok (.istore 4, 2) := by decide +kernel
theorem z137_26 {st : List Value} {w : pm_H} {b0 b1 b2 b4 b5 : Option Value} {x0 : Int32} {x9 : Int32} : pm_ev 137 26 [b0, b1, b2, some (.int x9), b4, b5] (.int x0 :: st) w = pm_ev 137 28 [b0, b1, b2, some (.int x9), some (.int x0), b5] st w := pm_ny pt_137 d137_26 rfl rfl rfl
theorem d137_28 : decode cX6_counts 28 = .ok (.bipush 90, 2) := by decide +kernel
theorem z137_28 {st : List Value} {w : pm_H} {pl : pm_L} : pm_ev 137 28 pl st w = pm_ev 137 30 pl (.int 90 :: st) w := pm_ny pt_137 d137_28 rfl rfl rfl
theorem d137_30 : decode cX6_counts 30 = .ok (.iload_n 3, 1) := by decide +kernel
theorem z137_30 {st : List Value} {w : pm_H} {b0 b1 b2 b4 b5 : Option Value} {x0 : Int32} : pm_ev 137 30 [b0, b1, b2, some (.int x0), b4, b5] st w = pm_ev 137 31 [b0, b1, b2, some (.int x0), b4, b5] (.int x0 :: st) w := pm_ny pt_137 d137_30 rfl rfl rfl
theorem d137_31 : decode cX6_counts 31 = .ok (.imul, 1) := by decide +kernel
theorem z137_31 {st : List Value} {w : pm_H} {pl : pm_L} {x0 x1 : Int32} : pm_ev 137 31 pl (.int x1 :: .int x0 :: st) w = pm_ev 137 32 pl (.int (x0 * x1) :: st) w := pm_ny pt_137 d137_31 rfl rfl rfl
theorem d137_32 : decode cX6_counts 32 = .ok (.bipush 90, 2) := by decide +kernel
theorem z137_32 {st : List Value} {w : pm_H} {pl : pm_L} : pm_ev 137 32 pl st w = pm_ev 137 34 pl (.int 90 :: st) w := pm_ny pt_137 d137_32 rfl rfl rfl
theorem d137_34 : decode cX6_counts 34 = .ok (.iadd, 1) := by decide +kernel
theorem z137_34 {st : List Value} {w : pm_H} {pl : pm_L} {x0 x1 : Int32} : pm_ev 137 34 pl (.int x1 :: .int x0 :: st) w = pm_ev 137 35 pl (.int (x0 + x1) :: st) w := pm_ny pt_137 d137_34 rfl rfl rfl
theorem d137_35 : decode cX6_counts 35 = .ok (.iload 4, 2) := by decide +kernel
theorem z137_35 {st : List Value} {w : pm_H} {b0 b1 b2 b3 b5 : Option Value} {x0 : Int32} : pm_ev 137 35 [b0, b1, b2, b3, some (.int x0), b5] st w = pm_ev 137 37 [b0, b1, b2, b3, some (.int x0), b5] (.int x0 :: st) w := pm_ny pt_137 d137_35 rfl rfl rfl
theorem d137_37 : decode cX6_counts 37 = .ok (.isub, 1) := by decide +kernel
theorem z137_37 {st : List Value} {w : pm_H} {pl : pm_L} {x0 x1 : Int32} : pm_ev 137 37 pl (.int x1 :: .int x0 :: st) w = pm_ev 137 38 pl (.int (x0 - x1) :: st) w := pm_ny pt_137 d137_37 rfl rfl rfl
theorem d137_38 : decode cX6_counts 38 = .ok (.istore 5, 2) := by decide +kernel
theorem z137_38 {st : List Value} {w : pm_H} {b0 b1 b2 b3 b5 : Option Value} {x0 : Int32} {x9 : Int32} : pm_ev 137 38 [b0, b1, b2, b3, some (.int x9), b5] (.int x0 :: st) w = pm_ev 137 40 [b0, b1, b2, b3, some (.int x9), some (.int x0)] st w := pm_ny pt_137 d137_38 rfl rfl rfl
theorem d137_40 : decode cX6_counts 40 = .ok (.iload 5, 2) := by decide +kernel
theorem z137_40 {st : List Value} {w : pm_H} {b0 b1 b2 b3 b4 : Option Value} {x0 : Int32} : pm_ev 137 40 [b0, b1, b2, b3, b4, some (.int x0)] st w = pm_ev 137 42 [b0, b1, b2, b3, b4, some (.int x0)] (.int x0 :: st) w := pm_ny pt_137 d137_40 rfl rfl rfl
theorem d137_42 : decode cX6_counts 42 = .ok (.ifCond .le 8, 3) := by decide +kernel
theorem z137_42 {st : List Value} {w : pm_H} {pl : pm_L} {x0 : Int32} : pm_ev 137 42 pl (.int x0 :: st) w = if 0 < x0 then pm_ev 137 45 pl st w else pm_ev 137 50 pl st w := pm_nin (c := x0 ≤ 0) pt_137 d137_42 rfl rfl rfl pm_ge
theorem d137_45 : decode cX6_counts 45 = .ok (.iload 5, 2) := by decide +kernel
theorem z137_45 {st : List Value} {w : pm_H} {b0 b1 b2 b3 b4 : Option Value} {x0 : Int32} : pm_ev 137 45 [b0, b1, b2, b3, b4, some (.int x0)] st w = pm_ev 137 47 [b0, b1, b2, b3, b4, some (.int x0)] (.int x0 :: st) w := pm_ny pt_137 d137_45 rfl rfl rfl
theorem d137_47 : decode cX6_counts 47 = .ok (.goto 4, 3) := by decide +kernel
theorem z137_47 {st : List Value} {w : pm_H} {pl : pm_L} : pm_ev 137 47 pl st w = pm_ev 137 51 pl st w := pm_ny pt_137 d137_47 rfl rfl rfl
theorem d137_50 : decode cX6_counts 50 = .ok (.iconst 0, 1) := by decide +kernel
theorem z137_50 {st : List Value} {w : pm_H} {pl : pm_L} : pm_ev 137 50 pl st w = pm_ev 137 51 pl (.int 0 :: st) w := pm_ny pt_137 d137_50 rfl rfl rfl
theorem d137_51 : decode cX6_counts 51 = .ok (.ireturn, 1) := by decide +kernel
theorem z137_51 {w : pm_H} {pl : pm_L} {x0 : Int32} : pm_ev 137 51 pl [.int x0] w = some (some (.int x0), w) := pm_nr pt_137 d137_51 rfl
theorem d138_0 : decode cX6_addsWeight 0 = .ok (.lconst 0, 1) := by decide +kernel
theorem z138_0 {st : List Value} {w : pm_H} {pl : pm_L} : pm_ev 138 0 pl st w = pm_ev 138 1 pl (.long 0 :: st) w := pm_ny pt_138 d138_0 rfl rfl rfl
theorem d138_1 : decode cX6_addsWeight 1 = .ok (.lstore 4, 2) := by decide +kernel
theorem z138_1 {st : List Value} {w : pm_H} {b0 b1 b2 b4 b5 b6 : Option Value} {x0 : Int64} {x9 : Int32} : pm_ev 138 1 [b0, b1, b2, some (.int x9), b4, b5, b6] (.long x0 :: st) w = pm_ev 138 3 [b0, b1, b2, some (.int x9), some (.long x0), none, b6] st w := pm_ny pt_138 d138_1 rfl rfl rfl
theorem d138_3 : decode cX6_addsWeight 3 = .ok (.aload_n 0, 1) := by decide +kernel
theorem z138_3 {st : List Value} {w : pm_H} {b1 b2 b3 b4 b5 b6 : Option Value} {x0 : Nat} : pm_ev 138 3 [some (.ref x0), b1, b2, b3, b4, b5, b6] st w = pm_ev 138 4 [some (.ref x0), b1, b2, b3, b4, b5, b6] (.ref x0 :: st) w := pm_ny pt_138 d138_3 rfl rfl rfl
theorem d138_4 : decode cX6_addsWeight 4 = .ok (.iload_n 1, 1) := by decide +kernel
theorem z138_4 {st : List Value} {w : pm_H} {b0 b2 b3 b4 b5 b6 : Option Value} {x0 : Int32} : pm_ev 138 4 [b0, some (.int x0), b2, b3, b4, b5, b6] st w = pm_ev 138 5 [b0, some (.int x0), b2, b3, b4, b5, b6] (.int x0 :: st) w := pm_ny pt_138 d138_4 rfl rfl rfl
theorem d138_5 : decode cX6_addsWeight 5 = .ok (.iconst 0, 1) := by decide +kernel
theorem z138_5 {st : List Value} {w : pm_H} {pl : pm_L} : pm_ev 138 5 pl st w = pm_ev 138 6 pl (.int 0 :: st) w := pm_ny pt_138 d138_5 rfl rfl rfl
theorem d138_6 : decode cX6_addsWeight 6 = .ok (.invokevirtual 179, 3) := by decide +kernel
theorem z138_6 {w : pm_H} {b0 b1 b2 b3 b4 b5 b6 : Option Value} {x0 : Int32} {x1 : Int32} {x2 : Nat} : pm_ev 138 6 [b0, b1, b2, b3, b4, b5, b6] [.int x0, .int x1, .ref x2] w = pm_k 138 9 [b0, b1, b2, b3, b4, b5, b6] [] (pm_vc (w x2) 6 (pm_call 131 [.ref x2, .int x1, .int x0] w)) := pm_nv pt_138 pt_131 pt_M_6_179 d138_6 ⟨rfl, rfl⟩ ⟨⟨rfl, Nat.le_of_ble_eq_true rfl, Nat.le_of_ble_eq_true rfl, Nat.le_of_ble_eq_true rfl, Nat.le_of_ble_eq_true rfl⟩, rfl⟩
theorem d138_9 : decode cX6_addsWeight 9 = .ok (.tableswitch 108 0 2 #[27, 57, 73], 27) := by decide +kernel
theorem z138_9 {st : List Value} {w : pm_H} {pl : pm_L} {x0 : Int32} : pm_ev 138 9 pl (.int x0 :: st) w = if x0 = 0 then pm_ev 138 36 pl st w else if x0 = 1 then pm_ev 138 66 pl st w else if x0 = 2 then pm_ev 138 82 pl st w else pm_ev 138 117 pl st w := by
  by_cases h0 : x0 = 0
  · subst h0; exact pm_ny pt_138 d138_9 rfl rfl rfl
  by_cases h1 : x0 = 1
  · subst h1; exact pm_ny pt_138 d138_9 rfl rfl rfl
  by_cases h2 : x0 = 2
  · subst h2; exact pm_ny pt_138 d138_9 rfl rfl rfl
  rw [if_neg h0, if_neg h1, if_neg h2]
  have hx : x0.toInt < 0 ∨ 2 < x0.toInt := by
    have e0 : x0.toInt ≠ 0 := fun h => h0 (Int32.toInt_inj.mp (h.trans (by decide)))
    have e1 : x0.toInt ≠ 1 := fun h => h1 (Int32.toInt_inj.mp (h.trans (by decide)))
    have e2 : x0.toInt ≠ 2 := fun h => h2 (Int32.toInt_inj.mp (h.trans (by decide)))
    omega
  exact pm_ny (pc' := 117) (pl' := pl) (st' := st) (w' := w) pt_138 d138_9 rfl rfl (show pm_or (if x0.toInt < 0 ∨ 2 < x0.toInt then some (117, pl, st, w) else _) _ = _ by rw [if_pos hx]; rfl)
theorem d138_36 : decode cX6_addsWeight 36 = .ok (.iload_n 2, 1) := by decide +kernel
theorem z138_36 {st : List Value} {w : pm_H} {b0 b1 b3 b4 b5 b6 : Option Value} {x0 : Int32} : pm_ev 138 36 [b0, b1, some (.int x0), b3, b4, b5, b6] st w = pm_ev 138 37 [b0, b1, some (.int x0), b3, b4, b5, b6] (.int x0 :: st) w := pm_ny pt_138 d138_36 rfl rfl rfl
theorem d138_37 : decode cX6_addsWeight 37 = .ok (.istore 6, 2) := by decide +kernel
theorem z138_37 {st : List Value} {w : pm_H} {b0 b1 b2 b3 b4 b6 : Option Value} {x0 : Int32} : pm_ev 138 37 [b0, b1, b2, b3, b4, none, b6] (.int x0 :: st) w = pm_ev 138 39 [b0, b1, b2, b3, b4, none, some (.int x0)] st w := pm_ny pt_138 d138_37 rfl rfl rfl
theorem d138_39 : decode cX6_addsWeight 39 = .ok (.iload 6, 2) := by decide +kernel
theorem z138_39 {st : List Value} {w : pm_H} {b0 b1 b2 b3 b4 b5 : Option Value} {x0 : Int32} : pm_ev 138 39 [b0, b1, b2, b3, b4, b5, some (.int x0)] st w = pm_ev 138 41 [b0, b1, b2, b3, b4, b5, some (.int x0)] (.int x0 :: st) w := pm_ny pt_138 d138_39 rfl rfl rfl
theorem d138_41 : decode cX6_addsWeight 41 = .ok (.iload_n 3, 1) := by decide +kernel
theorem z138_41 {st : List Value} {w : pm_H} {b0 b1 b2 b4 b5 b6 : Option Value} {x0 : Int32} : pm_ev 138 41 [b0, b1, b2, some (.int x0), b4, b5, b6] st w = pm_ev 138 42 [b0, b1, b2, some (.int x0), b4, b5, b6] (.int x0 :: st) w := pm_ny pt_138 d138_41 rfl rfl rfl
theorem d138_42 : decode cX6_addsWeight 42 = .ok (.if_icmp .gt 21, 3) := by decide +kernel
theorem z138_42 {st : List Value} {w : pm_H} {pl : pm_L} {x0 x1 : Int32} : pm_ev 138 42 pl (.int x1 :: .int x0 :: st) w = if x1 < x0 then pm_ev 138 63 pl st w else pm_ev 138 45 pl st w := pm_nif pt_138 d138_42 rfl rfl rfl
theorem d138_45 : decode cX6_addsWeight 45 = .ok (.lload 4, 2) := by decide +kernel
theorem z138_45 {st : List Value} {w : pm_H} {b0 b1 b2 b3 b5 b6 : Option Value} {x0 : Int64} : pm_ev 138 45 [b0, b1, b2, b3, some (.long x0), b5, b6] st w = pm_ev 138 47 [b0, b1, b2, b3, some (.long x0), b5, b6] (.long x0 :: st) w := pm_ny pt_138 d138_45 rfl rfl rfl
theorem d138_47 : decode cX6_addsWeight 47 = .ok (.aload_n 0, 1) := by decide +kernel
theorem z138_47 {st : List Value} {w : pm_H} {b1 b2 b3 b4 b5 b6 : Option Value} {x0 : Nat} : pm_ev 138 47 [some (.ref x0), b1, b2, b3, b4, b5, b6] st w = pm_ev 138 48 [some (.ref x0), b1, b2, b3, b4, b5, b6] (.ref x0 :: st) w := pm_ny pt_138 d138_47 rfl rfl rfl
theorem d138_48 : decode cX6_addsWeight 48 = .ok (.iload_n 1, 1) := by decide +kernel
theorem z138_48 {st : List Value} {w : pm_H} {b0 b2 b3 b4 b5 b6 : Option Value} {x0 : Int32} : pm_ev 138 48 [b0, some (.int x0), b2, b3, b4, b5, b6] st w = pm_ev 138 49 [b0, some (.int x0), b2, b3, b4, b5, b6] (.int x0 :: st) w := pm_ny pt_138 d138_48 rfl rfl rfl
theorem d138_49 : decode cX6_addsWeight 49 = .ok (.iload 6, 2) := by decide +kernel
theorem z138_49 {st : List Value} {w : pm_H} {b0 b1 b2 b3 b4 b5 : Option Value} {x0 : Int32} : pm_ev 138 49 [b0, b1, b2, b3, b4, b5, some (.int x0)] st w = pm_ev 138 51 [b0, b1, b2, b3, b4, b5, some (.int x0)] (.int x0 :: st) w := pm_ny pt_138 d138_49 rfl rfl rfl
theorem d138_51 : decode cX6_addsWeight 51 = .ok (.invokevirtual 208, 3) := by decide +kernel
theorem z138_51 {w : pm_H} {b0 b1 b2 b3 b4 b5 b6 : Option Value} {x0 : Int32} {x1 : Int32} {x2 : Nat} {x3 : Int64} : pm_ev 138 51 [b0, b1, b2, b3, b4, b5, b6] [.int x0, .int x1, .ref x2, .long x3] w = pm_k 138 54 [b0, b1, b2, b3, b4, b5, b6] [.long x3] (pm_vc (w x2) 6 (pm_call 139 [.ref x2, .int x1, .int x0] w)) := pm_nv pt_138 pt_139 pt_M_6_208 d138_51 ⟨rfl, rfl⟩ ⟨⟨rfl, Nat.le_of_ble_eq_true rfl, Nat.le_of_ble_eq_true rfl, Nat.le_of_ble_eq_true rfl, Nat.le_of_ble_eq_true rfl⟩, rfl⟩
theorem d138_54 : decode cX6_addsWeight 54 = .ok (.ladd, 1) := by decide +kernel
theorem z138_54 {st : List Value} {w : pm_H} {pl : pm_L} {x0 x1 : Int64} : pm_ev 138 54 pl (.long x1 :: .long x0 :: st) w = pm_ev 138 55 pl (.long (x0 + x1) :: st) w := pm_ny pt_138 d138_54 rfl rfl rfl
theorem d138_55 : decode cX6_addsWeight 55 = .ok (.lstore 4, 2) := by decide +kernel
theorem z138_55 {st : List Value} {w : pm_H} {b0 b1 b2 b4 b5 b6 : Option Value} {x0 : Int64} {x9 : Int32} : pm_ev 138 55 [b0, b1, b2, some (.int x9), b4, b5, b6] (.long x0 :: st) w = pm_ev 138 57 [b0, b1, b2, some (.int x9), some (.long x0), none, b6] st w := pm_ny pt_138 d138_55 rfl rfl rfl
theorem d138_57 : decode cX6_addsWeight 57 = .ok (.iinc 6 1, 3) := by decide +kernel
theorem z138_57 {st : List Value} {w : pm_H} {b0 b1 b2 b3 b4 : Option Value} {x0 : Int32} : pm_ev 138 57 [b0, b1, b2, b3, b4, none, some (.int x0)] st w = pm_ev 138 60 [b0, b1, b2, b3, b4, none, some (.int (x0 + 1))] st w := pm_ny pt_138 d138_57 rfl rfl rfl
theorem d138_60 : decode cX6_addsWeight 60 = .ok (.goto (-21), 3) := by decide +kernel
theorem z138_60 {st : List Value} {w : pm_H} {pl : pm_L} : pm_ev 138 60 pl st w = pm_ev 138 39 pl st w := pm_ny pt_138 d138_60 rfl rfl rfl
theorem d138_63 : decode cX6_addsWeight 63 = .ok (.lload 4, 2) := by decide +kernel
theorem z138_63 {st : List Value} {w : pm_H} {b0 b1 b2 b3 b5 b6 : Option Value} {x0 : Int64} : pm_ev 138 63 [b0, b1, b2, b3, some (.long x0), b5, b6] st w = pm_ev 138 65 [b0, b1, b2, b3, some (.long x0), b5, b6] (.long x0 :: st) w := pm_ny pt_138 d138_63 rfl rfl rfl
theorem d138_65 : decode cX6_addsWeight 65 = .ok (.lreturn, 1) := by decide +kernel
theorem z138_65 {w : pm_H} {pl : pm_L} {x0 : Int64} : pm_ev 138 65 pl [.long x0] w = some (some (.long x0), w) := pm_nr pt_138 d138_65 rfl
theorem d138_66 : decode cX6_addsWeight 66 = .ok (.aload_n 0, 1) := by decide +kernel
theorem z138_66 {st : List Value} {w : pm_H} {b1 b2 b3 b4 b5 b6 : Option Value} {x0 : Nat} : pm_ev 138 66 [some (.ref x0), b1, b2, b3, b4, b5, b6] st w = pm_ev 138 67 [some (.ref x0), b1, b2, b3, b4, b5, b6] (.ref x0 :: st) w := pm_ny pt_138 d138_66 rfl rfl rfl
theorem d138_67 : decode cX6_addsWeight 67 = .ok (.iload_n 1, 1) := by decide +kernel
theorem z138_67 {st : List Value} {w : pm_H} {b0 b2 b3 b4 b5 b6 : Option Value} {x0 : Int32} : pm_ev 138 67 [b0, some (.int x0), b2, b3, b4, b5, b6] st w = pm_ev 138 68 [b0, some (.int x0), b2, b3, b4, b5, b6] (.int x0 :: st) w := pm_ny pt_138 d138_67 rfl rfl rfl
theorem d138_68 : decode cX6_addsWeight 68 = .ok (.invokevirtual 198, 3) := by decide +kernel
theorem z138_68 {w : pm_H} {b0 b1 b2 b3 b4 b5 b6 : Option Value} {x0 : Int32} {x1 : Nat} : pm_ev 138 68 [b0, b1, b2, b3, b4, b5, b6] [.int x0, .ref x1] w = pm_k 138 71 [b0, b1, b2, b3, b4, b5, b6] [] (pm_vc (w x1) 6 (pm_call 130 [.ref x1, .int x0] w)) := pm_nv pt_138 pt_130 pt_M_6_198 d138_68 ⟨rfl, rfl⟩ ⟨⟨rfl, Nat.le_of_ble_eq_true rfl, Nat.le_of_ble_eq_true rfl, Nat.le_of_ble_eq_true rfl, Nat.le_of_ble_eq_true rfl⟩, rfl⟩
theorem d138_71 : decode cX6_addsWeight 71 = .ok (.i2l, 1) := by decide +kernel
theorem z138_71 {st : List Value} {w : pm_H} {pl : pm_L} {x0 : Int32} : pm_ev 138 71 pl (.int x0 :: st) w = pm_ev 138 72 pl (.long x0.toInt64 :: st) w := pm_ny pt_138 d138_71 rfl rfl rfl
theorem d138_72 : decode cX6_addsWeight 72 = .ok (.aload_n 0, 1) := by decide +kernel
theorem z138_72 {st : List Value} {w : pm_H} {b1 b2 b3 b4 b5 b6 : Option Value} {x0 : Nat} : pm_ev 138 72 [some (.ref x0), b1, b2, b3, b4, b5, b6] st w = pm_ev 138 73 [some (.ref x0), b1, b2, b3, b4, b5, b6] (.ref x0 :: st) w := pm_ny pt_138 d138_72 rfl rfl rfl
theorem d138_73 : decode cX6_addsWeight 73 = .ok (.iload_n 1, 1) := by decide +kernel
theorem z138_73 {st : List Value} {w : pm_H} {b0 b2 b3 b4 b5 b6 : Option Value} {x0 : Int32} : pm_ev 138 73 [b0, some (.int x0), b2, b3, b4, b5, b6] st w = pm_ev 138 74 [b0, some (.int x0), b2, b3, b4, b5, b6] (.int x0 :: st) w := pm_ny pt_138 d138_73 rfl rfl rfl
theorem d138_74 : decode cX6_addsWeight 74 = .ok (.iload_n 2, 1) := by decide +kernel
theorem z138_74 {st : List Value} {w : pm_H} {b0 b1 b3 b4 b5 b6 : Option Value} {x0 : Int32} : pm_ev 138 74 [b0, b1, some (.int x0), b3, b4, b5, b6] st w = pm_ev 138 75 [b0, b1, some (.int x0), b3, b4, b5, b6] (.int x0 :: st) w := pm_ny pt_138 d138_74 rfl rfl rfl
theorem d138_75 : decode cX6_addsWeight 75 = .ok (.iload_n 3, 1) := by decide +kernel
theorem z138_75 {st : List Value} {w : pm_H} {b0 b1 b2 b4 b5 b6 : Option Value} {x0 : Int32} : pm_ev 138 75 [b0, b1, b2, some (.int x0), b4, b5, b6] st w = pm_ev 138 76 [b0, b1, b2, some (.int x0), b4, b5, b6] (.int x0 :: st) w := pm_ny pt_138 d138_75 rfl rfl rfl
theorem d138_76 : decode cX6_addsWeight 76 = .ok (.invokevirtual 204, 3) := by decide +kernel
theorem z138_76 {w : pm_H} {b0 b1 b2 b3 b4 b5 b6 : Option Value} {x0 : Int32} {x1 : Int32} {x2 : Int32} {x3 : Nat} {x4 : Int64} : pm_ev 138 76 [b0, b1, b2, b3, b4, b5, b6] [.int x0, .int x1, .int x2, .ref x3, .long x4] w = pm_k 138 79 [b0, b1, b2, b3, b4, b5, b6] [.long x4] (pm_vc (w x3) 6 (pm_call 137 [.ref x3, .int x2, .int x1, .int x0] w)) := pm_nv pt_138 pt_137 pt_M_6_204 d138_76 ⟨rfl, rfl⟩ ⟨⟨rfl, Nat.le_of_ble_eq_true rfl, Nat.le_of_ble_eq_true rfl, Nat.le_of_ble_eq_true rfl, Nat.le_of_ble_eq_true rfl⟩, rfl⟩
theorem d138_79 : decode cX6_addsWeight 79 = .ok (.i2l, 1) := by decide +kernel
theorem z138_79 {st : List Value} {w : pm_H} {pl : pm_L} {x0 : Int32} : pm_ev 138 79 pl (.int x0 :: st) w = pm_ev 138 80 pl (.long x0.toInt64 :: st) w := pm_ny pt_138 d138_79 rfl rfl rfl
theorem d138_80 : decode cX6_addsWeight 80 = .ok (.lmul, 1) := by decide +kernel
theorem z138_80 {st : List Value} {w : pm_H} {pl : pm_L} {x0 x1 : Int64} : pm_ev 138 80 pl (.long x1 :: .long x0 :: st) w = pm_ev 138 81 pl (.long (x0 * x1) :: st) w := pm_ny pt_138 d138_80 rfl rfl rfl
theorem d138_81 : decode cX6_addsWeight 81 = .ok (.lreturn, 1) := by decide +kernel
theorem z138_81 {w : pm_H} {pl : pm_L} {x0 : Int64} : pm_ev 138 81 pl [.long x0] w = some (some (.long x0), w) := pm_nr pt_138 d138_81 rfl
theorem d138_82 : decode cX6_addsWeight 82 = .ok (.aload_n 0, 1) := by decide +kernel
theorem z138_82 {st : List Value} {w : pm_H} {b1 b2 b3 b4 b5 b6 : Option Value} {x0 : Nat} : pm_ev 138 82 [some (.ref x0), b1, b2, b3, b4, b5, b6] st w = pm_ev 138 83 [some (.ref x0), b1, b2, b3, b4, b5, b6] (.ref x0 :: st) w := pm_ny pt_138 d138_82 rfl rfl rfl
theorem d138_83 : decode cX6_addsWeight 83 = .ok (.iconst 0, 1) := by decide +kernel
theorem z138_83 {st : List Value} {w : pm_H} {pl : pm_L} : pm_ev 138 83 pl st w = pm_ev 138 84 pl (.int 0 :: st) w := pm_ny pt_138 d138_83 rfl rfl rfl
theorem d138_84 : decode cX6_addsWeight 84 = .ok (.iload_n 3, 1) := by decide +kernel
theorem z138_84 {st : List Value} {w : pm_H} {b0 b1 b2 b4 b5 b6 : Option Value} {x0 : Int32} : pm_ev 138 84 [b0, b1, b2, some (.int x0), b4, b5, b6] st w = pm_ev 138 85 [b0, b1, b2, some (.int x0), b4, b5, b6] (.int x0 :: st) w := pm_ny pt_138 d138_84 rfl rfl rfl
theorem d138_85 : decode cX6_addsWeight 85 = .ok (.invokevirtual 212, 3) := by decide +kernel
theorem z138_85 {w : pm_H} {b0 b1 b2 b3 b4 b5 b6 : Option Value} {x0 : Int32} {x1 : Int32} {x2 : Nat} : pm_ev 138 85 [b0, b1, b2, b3, b4, b5, b6] [.int x0, .int x1, .ref x2] w = pm_k 138 88 [b0, b1, b2, b3, b4, b5, b6] [] (pm_vc (w x2) 6 (pm_call 141 [.ref x2, .int x1, .int x0] w)) := pm_nv pt_138 pt_141 pt_M_6_212 d138_85 ⟨rfl, rfl⟩ ⟨⟨rfl, Nat.le_of_ble_eq_true rfl, Nat.le_of_ble_eq_true rfl, Nat.le_of_ble_eq_true rfl, Nat.le_of_ble_eq_true rfl⟩, rfl⟩
theorem d138_88 : decode cX6_addsWeight 88 = .ok (.aload_n 0, 1) := by decide +kernel
theorem z138_88 {st : List Value} {w : pm_H} {b1 b2 b3 b4 b5 b6 : Option Value} {x0 : Nat} : pm_ev 138 88 [some (.ref x0), b1, b2, b3, b4, b5, b6] st w = pm_ev 138 89 [some (.ref x0), b1, b2, b3, b4, b5, b6] (.ref x0 :: st) w := pm_ny pt_138 d138_88 rfl rfl rfl
theorem d138_89 : decode cX6_addsWeight 89 = .ok (.iload_n 1, 1) := by decide +kernel
theorem z138_89 {st : List Value} {w : pm_H} {b0 b2 b3 b4 b5 b6 : Option Value} {x0 : Int32} : pm_ev 138 89 [b0, some (.int x0), b2, b3, b4, b5, b6] st w = pm_ev 138 90 [b0, some (.int x0), b2, b3, b4, b5, b6] (.int x0 :: st) w := pm_ny pt_138 d138_89 rfl rfl rfl
theorem d138_90 : decode cX6_addsWeight 90 = .ok (.iconst 3, 1) := by decide +kernel
theorem z138_90 {st : List Value} {w : pm_H} {pl : pm_L} : pm_ev 138 90 pl st w = pm_ev 138 91 pl (.int 3 :: st) w := pm_ny pt_138 d138_90 rfl rfl rfl
theorem d138_91 : decode cX6_addsWeight 91 = .ok (.invokevirtual 179, 3) := by decide +kernel
theorem z138_91 {w : pm_H} {b0 b1 b2 b3 b4 b5 b6 : Option Value} {x0 : Int32} {x1 : Int32} {x2 : Nat} {x3 : Int32} : pm_ev 138 91 [b0, b1, b2, b3, b4, b5, b6] [.int x0, .int x1, .ref x2, .int x3] w = pm_k 138 94 [b0, b1, b2, b3, b4, b5, b6] [.int x3] (pm_vc (w x2) 6 (pm_call 131 [.ref x2, .int x1, .int x0] w)) := pm_nv pt_138 pt_131 pt_M_6_179 d138_91 ⟨rfl, rfl⟩ ⟨⟨rfl, Nat.le_of_ble_eq_true rfl, Nat.le_of_ble_eq_true rfl, Nat.le_of_ble_eq_true rfl, Nat.le_of_ble_eq_true rfl⟩, rfl⟩
theorem d138_94 : decode cX6_addsWeight 94 = .ok (.if_icmp .lt 21, 3) := by decide +kernel
theorem z138_94 {st : List Value} {w : pm_H} {pl : pm_L} {x0 x1 : Int32} : pm_ev 138 94 pl (.int x1 :: .int x0 :: st) w = if x0 < x1 then pm_ev 138 115 pl st w else pm_ev 138 97 pl st w := pm_nif pt_138 d138_94 rfl rfl rfl
theorem d138_97 : decode cX6_addsWeight 97 = .ok (.aload_n 0, 1) := by decide +kernel
theorem z138_97 {st : List Value} {w : pm_H} {b1 b2 b3 b4 b5 b6 : Option Value} {x0 : Nat} : pm_ev 138 97 [some (.ref x0), b1, b2, b3, b4, b5, b6] st w = pm_ev 138 98 [some (.ref x0), b1, b2, b3, b4, b5, b6] (.ref x0 :: st) w := pm_ny pt_138 d138_97 rfl rfl rfl
theorem d138_98 : decode cX6_addsWeight 98 = .ok (.iload_n 1, 1) := by decide +kernel
theorem z138_98 {st : List Value} {w : pm_H} {b0 b2 b3 b4 b5 b6 : Option Value} {x0 : Int32} : pm_ev 138 98 [b0, some (.int x0), b2, b3, b4, b5, b6] st w = pm_ev 138 99 [b0, some (.int x0), b2, b3, b4, b5, b6] (.int x0 :: st) w := pm_ny pt_138 d138_98 rfl rfl rfl
theorem d138_99 : decode cX6_addsWeight 99 = .ok (.invokevirtual 198, 3) := by decide +kernel
theorem z138_99 {w : pm_H} {b0 b1 b2 b3 b4 b5 b6 : Option Value} {x0 : Int32} {x1 : Nat} : pm_ev 138 99 [b0, b1, b2, b3, b4, b5, b6] [.int x0, .ref x1] w = pm_k 138 102 [b0, b1, b2, b3, b4, b5, b6] [] (pm_vc (w x1) 6 (pm_call 130 [.ref x1, .int x0] w)) := pm_nv pt_138 pt_130 pt_M_6_198 d138_99 ⟨rfl, rfl⟩ ⟨⟨rfl, Nat.le_of_ble_eq_true rfl, Nat.le_of_ble_eq_true rfl, Nat.le_of_ble_eq_true rfl, Nat.le_of_ble_eq_true rfl⟩, rfl⟩
theorem d138_102 : decode cX6_addsWeight 102 = .ok (.i2l, 1) := by decide +kernel
theorem z138_102 {st : List Value} {w : pm_H} {pl : pm_L} {x0 : Int32} : pm_ev 138 102 pl (.int x0 :: st) w = pm_ev 138 103 pl (.long x0.toInt64 :: st) w := pm_ny pt_138 d138_102 rfl rfl rfl
theorem d138_103 : decode cX6_addsWeight 103 = .ok (.aload_n 0, 1) := by decide +kernel
theorem z138_103 {st : List Value} {w : pm_H} {b1 b2 b3 b4 b5 b6 : Option Value} {x0 : Nat} : pm_ev 138 103 [some (.ref x0), b1, b2, b3, b4, b5, b6] st w = pm_ev 138 104 [some (.ref x0), b1, b2, b3, b4, b5, b6] (.ref x0 :: st) w := pm_ny pt_138 d138_103 rfl rfl rfl
theorem d138_104 : decode cX6_addsWeight 104 = .ok (.iload_n 1, 1) := by decide +kernel
theorem z138_104 {st : List Value} {w : pm_H} {b0 b2 b3 b4 b5 b6 : Option Value} {x0 : Int32} : pm_ev 138 104 [b0, some (.int x0), b2, b3, b4, b5, b6] st w = pm_ev 138 105 [b0, some (.int x0), b2, b3, b4, b5, b6] (.int x0 :: st) w := pm_ny pt_138 d138_104 rfl rfl rfl
theorem d138_105 : decode cX6_addsWeight 105 = .ok (.iload_n 2, 1) := by decide +kernel
theorem z138_105 {st : List Value} {w : pm_H} {b0 b1 b3 b4 b5 b6 : Option Value} {x0 : Int32} : pm_ev 138 105 [b0, b1, some (.int x0), b3, b4, b5, b6] st w = pm_ev 138 106 [b0, b1, some (.int x0), b3, b4, b5, b6] (.int x0 :: st) w := pm_ny pt_138 d138_105 rfl rfl rfl
theorem d138_106 : decode cX6_addsWeight 106 = .ok (.iload_n 3, 1) := by decide +kernel
theorem z138_106 {st : List Value} {w : pm_H} {b0 b1 b2 b4 b5 b6 : Option Value} {x0 : Int32} : pm_ev 138 106 [b0, b1, b2, some (.int x0), b4, b5, b6] st w = pm_ev 138 107 [b0, b1, b2, some (.int x0), b4, b5, b6] (.int x0 :: st) w := pm_ny pt_138 d138_106 rfl rfl rfl
theorem d138_107 : decode cX6_addsWeight 107 = .ok (.invokevirtual 204, 3) := by decide +kernel
theorem z138_107 {w : pm_H} {b0 b1 b2 b3 b4 b5 b6 : Option Value} {x0 : Int32} {x1 : Int32} {x2 : Int32} {x3 : Nat} {x4 : Int64} : pm_ev 138 107 [b0, b1, b2, b3, b4, b5, b6] [.int x0, .int x1, .int x2, .ref x3, .long x4] w = pm_k 138 110 [b0, b1, b2, b3, b4, b5, b6] [.long x4] (pm_vc (w x3) 6 (pm_call 137 [.ref x3, .int x2, .int x1, .int x0] w)) := pm_nv pt_138 pt_137 pt_M_6_204 d138_107 ⟨rfl, rfl⟩ ⟨⟨rfl, Nat.le_of_ble_eq_true rfl, Nat.le_of_ble_eq_true rfl, Nat.le_of_ble_eq_true rfl, Nat.le_of_ble_eq_true rfl⟩, rfl⟩
theorem d138_110 : decode cX6_addsWeight 110 = .ok (.i2l, 1) := by decide +kernel
theorem z138_110 {st : List Value} {w : pm_H} {pl : pm_L} {x0 : Int32} : pm_ev 138 110 pl (.int x0 :: st) w = pm_ev 138 111 pl (.long x0.toInt64 :: st) w := pm_ny pt_138 d138_110 rfl rfl rfl
theorem d138_111 : decode cX6_addsWeight 111 = .ok (.lmul, 1) := by decide +kernel
theorem z138_111 {st : List Value} {w : pm_H} {pl : pm_L} {x0 x1 : Int64} : pm_ev 138 111 pl (.long x1 :: .long x0 :: st) w = pm_ev 138 112 pl (.long (x0 * x1) :: st) w := pm_ny pt_138 d138_111 rfl rfl rfl
theorem d138_112 : decode cX6_addsWeight 112 = .ok (.goto 4, 3) := by decide +kernel
theorem z138_112 {st : List Value} {w : pm_H} {pl : pm_L} : pm_ev 138 112 pl st w = pm_ev 138 116 pl st w := pm_ny pt_138 d138_112 rfl rfl rfl
theorem d138_115 : decode cX6_addsWeight 115 = .ok (.lconst 0, 1) := by decide +kernel
theorem z138_115 {st : List Value} {w : pm_H} {pl : pm_L} : pm_ev 138 115 pl st w = pm_ev 138 116 pl (.long 0 :: st) w := pm_ny pt_138 d138_115 rfl rfl rfl
theorem d138_116 : decode cX6_addsWeight 116 = .ok (.lreturn, 1) := by decide +kernel
theorem z138_116 {w : pm_H} {pl : pm_L} {x0 : Int64} : pm_ev 138 116 pl [.long x0] w = some (some (.long x0), w) := pm_nr pt_138 d138_116 rfl
theorem d138_117 : decode cX6_addsWeight 117 = .ok (.aload_n 0, 1) := by decide +kernel
theorem z138_117 {st : List Value} {w : pm_H} {b1 b2 b3 b4 b5 b6 : Option Value} {x0 : Nat} : pm_ev 138 117 [some (.ref x0), b1, b2, b3, b4, b5, b6] st w = pm_ev 138 118 [some (.ref x0), b1, b2, b3, b4, b5, b6] (.ref x0 :: st) w := pm_ny pt_138 d138_117 rfl rfl rfl
theorem d138_118 : decode cX6_addsWeight 118 = .ok (.iload_n 1, 1) := by decide +kernel
theorem z138_118 {st : List Value} {w : pm_H} {b0 b2 b3 b4 b5 b6 : Option Value} {x0 : Int32} : pm_ev 138 118 [b0, some (.int x0), b2, b3, b4, b5, b6] st w = pm_ev 138 119 [b0, some (.int x0), b2, b3, b4, b5, b6] (.int x0 :: st) w := pm_ny pt_138 d138_118 rfl rfl rfl
theorem d138_119 : decode cX6_addsWeight 119 = .ok (.iload_n 3, 1) := by decide +kernel
theorem z138_119 {st : List Value} {w : pm_H} {b0 b1 b2 b4 b5 b6 : Option Value} {x0 : Int32} : pm_ev 138 119 [b0, b1, b2, some (.int x0), b4, b5, b6] st w = pm_ev 138 120 [b0, b1, b2, some (.int x0), b4, b5, b6] (.int x0 :: st) w := pm_ny pt_138 d138_119 rfl rfl rfl
theorem d138_120 : decode cX6_addsWeight 120 = .ok (.invokevirtual 201, 3) := by decide +kernel
theorem z138_120 {w : pm_H} {b0 b1 b2 b3 b4 b5 b6 : Option Value} {x0 : Int32} {x1 : Int32} {x2 : Nat} : pm_ev 138 120 [b0, b1, b2, b3, b4, b5, b6] [.int x0, .int x1, .ref x2] w = pm_k 138 123 [b0, b1, b2, b3, b4, b5, b6] [] (pm_vc (w x2) 6 (pm_call 140 [.ref x2, .int x1, .int x0] w)) := pm_nv pt_138 pt_140 pt_M_6_201 d138_120 ⟨rfl, rfl⟩ ⟨⟨rfl, Nat.le_of_ble_eq_true rfl, Nat.le_of_ble_eq_true rfl, Nat.le_of_ble_eq_true rfl, Nat.le_of_ble_eq_true rfl⟩, rfl⟩
theorem d138_123 : decode cX6_addsWeight 123 = .ok (.aload_n 0, 1) := by decide +kernel
theorem z138_123 {st : List Value} {w : pm_H} {b1 b2 b3 b4 b5 b6 : Option Value} {x0 : Nat} : pm_ev 138 123 [some (.ref x0), b1, b2, b3, b4, b5, b6] st w = pm_ev 138 124 [some (.ref x0), b1, b2, b3, b4, b5, b6] (.ref x0 :: st) w := pm_ny pt_138 d138_123 rfl rfl rfl
theorem d138_124 : decode cX6_addsWeight 124 = .ok (.iload_n 1, 1) := by decide +kernel
theorem z138_124 {st : List Value} {w : pm_H} {b0 b2 b3 b4 b5 b6 : Option Value} {x0 : Int32} : pm_ev 138 124 [b0, some (.int x0), b2, b3, b4, b5, b6] st w = pm_ev 138 125 [b0, some (.int x0), b2, b3, b4, b5, b6] (.int x0 :: st) w := pm_ny pt_138 d138_124 rfl rfl rfl
theorem d138_125 : decode cX6_addsWeight 125 = .ok (.iconst 3, 1) := by decide +kernel
theorem z138_125 {st : List Value} {w : pm_H} {pl : pm_L} : pm_ev 138 125 pl st w = pm_ev 138 126 pl (.int 3 :: st) w := pm_ny pt_138 d138_125 rfl rfl rfl
theorem d138_126 : decode cX6_addsWeight 126 = .ok (.invokevirtual 179, 3) := by decide +kernel
theorem z138_126 {w : pm_H} {b0 b1 b2 b3 b4 b5 b6 : Option Value} {x0 : Int32} {x1 : Int32} {x2 : Nat} {x3 : Int32} : pm_ev 138 126 [b0, b1, b2, b3, b4, b5, b6] [.int x0, .int x1, .ref x2, .int x3] w = pm_k 138 129 [b0, b1, b2, b3, b4, b5, b6] [.int x3] (pm_vc (w x2) 6 (pm_call 131 [.ref x2, .int x1, .int x0] w)) := pm_nv pt_138 pt_131 pt_M_6_179 d138_126 ⟨rfl, rfl⟩ ⟨⟨rfl, Nat.le_of_ble_eq_true rfl, Nat.le_of_ble_eq_true rfl, Nat.le_of_ble_eq_true rfl, Nat.le_of_ble_eq_true rfl⟩, rfl⟩
theorem d138_129 : decode cX6_addsWeight 129 = .ok (.if_icmp .lt 21, 3) := by decide +kernel
theorem z138_129 {st : List Value} {w : pm_H} {pl : pm_L} {x0 x1 : Int32} : pm_ev 138 129 pl (.int x1 :: .int x0 :: st) w = if x0 < x1 then pm_ev 138 150 pl st w else pm_ev 138 132 pl st w := pm_nif pt_138 d138_129 rfl rfl rfl
theorem d138_132 : decode cX6_addsWeight 132 = .ok (.aload_n 0, 1) := by decide +kernel
theorem z138_132 {st : List Value} {w : pm_H} {b1 b2 b3 b4 b5 b6 : Option Value} {x0 : Nat} : pm_ev 138 132 [some (.ref x0), b1, b2, b3, b4, b5, b6] st w = pm_ev 138 133 [some (.ref x0), b1, b2, b3, b4, b5, b6] (.ref x0 :: st) w := pm_ny pt_138 d138_132 rfl rfl rfl
theorem d138_133 : decode cX6_addsWeight 133 = .ok (.iload_n 1, 1) := by decide +kernel
theorem z138_133 {st : List Value} {w : pm_H} {b0 b2 b3 b4 b5 b6 : Option Value} {x0 : Int32} : pm_ev 138 133 [b0, some (.int x0), b2, b3, b4, b5, b6] st w = pm_ev 138 134 [b0, some (.int x0), b2, b3, b4, b5, b6] (.int x0 :: st) w := pm_ny pt_138 d138_133 rfl rfl rfl
theorem d138_134 : decode cX6_addsWeight 134 = .ok (.invokevirtual 198, 3) := by decide +kernel
theorem z138_134 {w : pm_H} {b0 b1 b2 b3 b4 b5 b6 : Option Value} {x0 : Int32} {x1 : Nat} : pm_ev 138 134 [b0, b1, b2, b3, b4, b5, b6] [.int x0, .ref x1] w = pm_k 138 137 [b0, b1, b2, b3, b4, b5, b6] [] (pm_vc (w x1) 6 (pm_call 130 [.ref x1, .int x0] w)) := pm_nv pt_138 pt_130 pt_M_6_198 d138_134 ⟨rfl, rfl⟩ ⟨⟨rfl, Nat.le_of_ble_eq_true rfl, Nat.le_of_ble_eq_true rfl, Nat.le_of_ble_eq_true rfl, Nat.le_of_ble_eq_true rfl⟩, rfl⟩
theorem d138_137 : decode cX6_addsWeight 137 = .ok (.i2l, 1) := by decide +kernel
theorem z138_137 {st : List Value} {w : pm_H} {pl : pm_L} {x0 : Int32} : pm_ev 138 137 pl (.int x0 :: st) w = pm_ev 138 138 pl (.long x0.toInt64 :: st) w := pm_ny pt_138 d138_137 rfl rfl rfl
theorem d138_138 : decode cX6_addsWeight 138 = .ok (.aload_n 0, 1) := by decide +kernel
theorem z138_138 {st : List Value} {w : pm_H} {b1 b2 b3 b4 b5 b6 : Option Value} {x0 : Nat} : pm_ev 138 138 [some (.ref x0), b1, b2, b3, b4, b5, b6] st w = pm_ev 138 139 [some (.ref x0), b1, b2, b3, b4, b5, b6] (.ref x0 :: st) w := pm_ny pt_138 d138_138 rfl rfl rfl
theorem d138_139 : decode cX6_addsWeight 139 = .ok (.iload_n 1, 1) := by decide +kernel
theorem z138_139 {st : List Value} {w : pm_H} {b0 b2 b3 b4 b5 b6 : Option Value} {x0 : Int32} : pm_ev 138 139 [b0, some (.int x0), b2, b3, b4, b5, b6] st w = pm_ev 138 140 [b0, some (.int x0), b2, b3, b4, b5, b6] (.int x0 :: st) w := pm_ny pt_138 d138_139 rfl rfl rfl
theorem d138_140 : decode cX6_addsWeight 140 = .ok (.iload_n 2, 1) := by decide +kernel
theorem z138_140 {st : List Value} {w : pm_H} {b0 b1 b3 b4 b5 b6 : Option Value} {x0 : Int32} : pm_ev 138 140 [b0, b1, some (.int x0), b3, b4, b5, b6] st w = pm_ev 138 141 [b0, b1, some (.int x0), b3, b4, b5, b6] (.int x0 :: st) w := pm_ny pt_138 d138_140 rfl rfl rfl
theorem d138_141 : decode cX6_addsWeight 141 = .ok (.iload_n 3, 1) := by decide +kernel
theorem z138_141 {st : List Value} {w : pm_H} {b0 b1 b2 b4 b5 b6 : Option Value} {x0 : Int32} : pm_ev 138 141 [b0, b1, b2, some (.int x0), b4, b5, b6] st w = pm_ev 138 142 [b0, b1, b2, some (.int x0), b4, b5, b6] (.int x0 :: st) w := pm_ny pt_138 d138_141 rfl rfl rfl
theorem d138_142 : decode cX6_addsWeight 142 = .ok (.invokevirtual 204, 3) := by decide +kernel
theorem z138_142 {w : pm_H} {b0 b1 b2 b3 b4 b5 b6 : Option Value} {x0 : Int32} {x1 : Int32} {x2 : Int32} {x3 : Nat} {x4 : Int64} : pm_ev 138 142 [b0, b1, b2, b3, b4, b5, b6] [.int x0, .int x1, .int x2, .ref x3, .long x4] w = pm_k 138 145 [b0, b1, b2, b3, b4, b5, b6] [.long x4] (pm_vc (w x3) 6 (pm_call 137 [.ref x3, .int x2, .int x1, .int x0] w)) := pm_nv pt_138 pt_137 pt_M_6_204 d138_142 ⟨rfl, rfl⟩ ⟨⟨rfl, Nat.le_of_ble_eq_true rfl, Nat.le_of_ble_eq_true rfl, Nat.le_of_ble_eq_true rfl, Nat.le_of_ble_eq_true rfl⟩, rfl⟩
theorem d138_145 : decode cX6_addsWeight 145 = .ok (.i2l, 1) := by decide +kernel
theorem z138_145 {st : List Value} {w : pm_H} {pl : pm_L} {x0 : Int32} : pm_ev 138 145 pl (.int x0 :: st) w = pm_ev 138 146 pl (.long x0.toInt64 :: st) w := pm_ny pt_138 d138_145 rfl rfl rfl
theorem d138_146 : decode cX6_addsWeight 146 = .ok (.lmul, 1) := by decide +kernel
theorem z138_146 {st : List Value} {w : pm_H} {pl : pm_L} {x0 x1 : Int64} : pm_ev 138 146 pl (.long x1 :: .long x0 :: st) w = pm_ev 138 147 pl (.long (x0 * x1) :: st) w := pm_ny pt_138 d138_146 rfl rfl rfl
theorem d138_147 : decode cX6_addsWeight 147 = .ok (.goto 4, 3) := by decide +kernel
theorem z138_147 {st : List Value} {w : pm_H} {pl : pm_L} : pm_ev 138 147 pl st w = pm_ev 138 151 pl st w := pm_ny pt_138 d138_147 rfl rfl rfl
theorem d138_150 : decode cX6_addsWeight 150 = .ok (.lconst 0, 1) := by decide +kernel
theorem z138_150 {st : List Value} {w : pm_H} {pl : pm_L} : pm_ev 138 150 pl st w = pm_ev 138 151 pl (.long 0 :: st) w := pm_ny pt_138 d138_150 rfl rfl rfl
theorem d138_151 : decode cX6_addsWeight 151 = .ok (.lreturn, 1) := by decide +kernel
theorem z138_151 {w : pm_H} {pl : pm_L} {x0 : Int64} : pm_ev 138 151 pl [.long x0] w = some (some (.long x0), w) := pm_nr pt_138 d138_151 rfl
theorem d139_0 : decode cX6_byOption 0 = .ok (.aload_n 0, 1) := by decide +kernel
theorem z139_0 {st : List Value} {w : pm_H} {b1 b2 b3 b4 : Option Value} {x0 : Nat} : pm_ev 139 0 [some (.ref x0), b1, b2, b3, b4] st w = pm_ev 139 1 [some (.ref x0), b1, b2, b3, b4] (.ref x0 :: st) w := pm_ny pt_139 d139_0 rfl rfl rfl
theorem d139_1 : decode cX6_byOption 1 = .ok (.iload_n 1, 1) := by decide +kernel
theorem z139_1 {st : List Value} {w : pm_H} {b0 b2 b3 b4 : Option Value} {x0 : Int32} : pm_ev 139 1 [b0, some (.int x0), b2, b3, b4] st w = pm_ev 139 2 [b0, some (.int x0), b2, b3, b4] (.int x0 :: st) w := pm_ny pt_139 d139_1 rfl rfl rfl
theorem d139_2 : decode cX6_byOption 2 = .ok (.iload_n 2, 1) := by decide +kernel
theorem z139_2 {st : List Value} {w : pm_H} {b0 b1 b3 b4 : Option Value} {x0 : Int32} : pm_ev 139 2 [b0, b1, some (.int x0), b3, b4] st w = pm_ev 139 3 [b0, b1, some (.int x0), b3, b4] (.int x0 :: st) w := pm_ny pt_139 d139_2 rfl rfl rfl
theorem d139_3 : decode cX6_byOption 3 = .ok (.invokevirtual 201, 3) := by decide +kernel
theorem z139_3 {w : pm_H} {b0 b1 b2 b3 b4 : Option Value} {x0 : Int32} {x1 : Int32} {x2 : Nat} : pm_ev 139 3 [b0, b1, b2, b3, b4] [.int x0, .int x1, .ref x2] w = pm_k 139 6 [b0, b1, b2, b3, b4] [] (pm_vc (w x2) 6 (pm_call 140 [.ref x2, .int x1, .int x0] w)) := pm_nv pt_139 pt_140 pt_M_6_201 d139_3 ⟨rfl, rfl⟩ ⟨⟨rfl, Nat.le_of_ble_eq_true rfl, Nat.le_of_ble_eq_true rfl, Nat.le_of_ble_eq_true rfl, Nat.le_of_ble_eq_true rfl⟩, rfl⟩
theorem d139_6 : decode cX6_byOption 6 = .ok (.istore_n 3, 1) := by decide +kernel
theorem z139_6 {st : List Value} {w : pm_H} {b0 b1 b3 b4 : Option Value} {x0 : Int32} {x9 : Int32} : pm_ev 139 6 [b0, b1, some (.int x9), b3, b4] (.int x0 :: st) w = pm_ev 139 7 [b0, b1, some (.int x9), some (.int x0), b4] st w := pm_ny pt_139 d139_6 rfl rfl rfl
theorem d139_7 : decode cX6_byOption 7 = .ok (.iload_n 3, 1) := by decide +kernel
theorem z139_7 {st : List Value} {w : pm_H} {b0 b1 b2 b4 : Option Value} {x0 : Int32} : pm_ev 139 7 [b0, b1, b2, some (.int x0), b4] st w = pm_ev 139 8 [b0, b1, b2, some (.int x0), b4] (.int x0 :: st) w := pm_ny pt_139 d139_7 rfl rfl rfl
theorem d139_8 : decode cX6_byOption 8 = .ok (.aload_n 0, 1) := by decide +kernel
theorem z139_8 {st : List Value} {w : pm_H} {b1 b2 b3 b4 : Option Value} {x0 : Nat} : pm_ev 139 8 [some (.ref x0), b1, b2, b3, b4] st w = pm_ev 139 9 [some (.ref x0), b1, b2, b3, b4] (.ref x0 :: st) w := pm_ny pt_139 d139_8 rfl rfl rfl
theorem d139_9 : decode cX6_byOption 9 = .ok (.iload_n 1, 1) := by decide +kernel
theorem z139_9 {st : List Value} {w : pm_H} {b0 b2 b3 b4 : Option Value} {x0 : Int32} : pm_ev 139 9 [b0, some (.int x0), b2, b3, b4] st w = pm_ev 139 10 [b0, some (.int x0), b2, b3, b4] (.int x0 :: st) w := pm_ny pt_139 d139_9 rfl rfl rfl
theorem d139_10 : decode cX6_byOption 10 = .ok (.iconst 3, 1) := by decide +kernel
theorem z139_10 {st : List Value} {w : pm_H} {pl : pm_L} : pm_ev 139 10 pl st w = pm_ev 139 11 pl (.int 3 :: st) w := pm_ny pt_139 d139_10 rfl rfl rfl
theorem d139_11 : decode cX6_byOption 11 = .ok (.invokevirtual 179, 3) := by decide +kernel
theorem z139_11 {w : pm_H} {b0 b1 b2 b3 b4 : Option Value} {x0 : Int32} {x1 : Int32} {x2 : Nat} {x3 : Int32} : pm_ev 139 11 [b0, b1, b2, b3, b4] [.int x0, .int x1, .ref x2, .int x3] w = pm_k 139 14 [b0, b1, b2, b3, b4] [.int x3] (pm_vc (w x2) 6 (pm_call 131 [.ref x2, .int x1, .int x0] w)) := pm_nv pt_139 pt_131 pt_M_6_179 d139_11 ⟨rfl, rfl⟩ ⟨⟨rfl, Nat.le_of_ble_eq_true rfl, Nat.le_of_ble_eq_true rfl, Nat.le_of_ble_eq_true rfl, Nat.le_of_ble_eq_true rfl⟩, rfl⟩
theorem d139_14 : decode cX6_byOption 14 = .ok (.isub, 1) := by decide +kernel
theorem z139_14 {st : List Value} {w : pm_H} {pl : pm_L} {x0 x1 : Int32} : pm_ev 139 14 pl (.int x1 :: .int x0 :: st) w = pm_ev 139 15 pl (.int (x0 - x1) :: st) w := pm_ny pt_139 d139_14 rfl rfl rfl
theorem d139_15 : decode cX6_byOption 15 = .ok (.istore 4, 2) := by decide +kernel
theorem z139_15 {st : List Value} {w : pm_H} {b0 b1 b2 b4 : Option Value} {x0 : Int32} {x9 : Int32} : pm_ev 139 15 [b0, b1, b2, some (.int x9), b4] (.int x0 :: st) w = pm_ev 139 17 [b0, b1, b2, some (.int x9), some (.int x0)] st w := pm_ny pt_139 d139_15 rfl rfl rfl
theorem d139_17 : decode cX6_byOption 17 = .ok (.iload 4, 2) := by decide +kernel
theorem z139_17 {st : List Value} {w : pm_H} {b0 b1 b2 b3 : Option Value} {x0 : Int32} : pm_ev 139 17 [b0, b1, b2, b3, some (.int x0)] st w = pm_ev 139 19 [b0, b1, b2, b3, some (.int x0)] (.int x0 :: st) w := pm_ny pt_139 d139_17 rfl rfl rfl
theorem d139_19 : decode cX6_byOption 19 = .ok (.ifCond .le 28, 3) := by decide +kernel
theorem z139_19 {st : List Value} {w : pm_H} {pl : pm_L} {x0 : Int32} : pm_ev 139 19 pl (.int x0 :: st) w = if 0 < x0 then pm_ev 139 22 pl st w else pm_ev 139 47 pl st w := pm_nin (c := x0 ≤ 0) pt_139 d139_19 rfl rfl rfl pm_ge
theorem d139_22 : decode cX6_byOption 22 = .ok (.aload_n 0, 1) := by decide +kernel
theorem z139_22 {st : List Value} {w : pm_H} {b1 b2 b3 b4 : Option Value} {x0 : Nat} : pm_ev 139 22 [some (.ref x0), b1, b2, b3, b4] st w = pm_ev 139 23 [some (.ref x0), b1, b2, b3, b4] (.ref x0 :: st) w := pm_ny pt_139 d139_22 rfl rfl rfl
theorem d139_23 : decode cX6_byOption 23 = .ok (.iload_n 1, 1) := by decide +kernel
theorem z139_23 {st : List Value} {w : pm_H} {b0 b2 b3 b4 : Option Value} {x0 : Int32} : pm_ev 139 23 [b0, some (.int x0), b2, b3, b4] st w = pm_ev 139 24 [b0, some (.int x0), b2, b3, b4] (.int x0 :: st) w := pm_ny pt_139 d139_23 rfl rfl rfl
theorem d139_24 : decode cX6_byOption 24 = .ok (.invokevirtual 198, 3) := by decide +kernel
theorem z139_24 {w : pm_H} {b0 b1 b2 b3 b4 : Option Value} {x0 : Int32} {x1 : Nat} : pm_ev 139 24 [b0, b1, b2, b3, b4] [.int x0, .ref x1] w = pm_k 139 27 [b0, b1, b2, b3, b4] [] (pm_vc (w x1) 6 (pm_call 130 [.ref x1, .int x0] w)) := pm_nv pt_139 pt_130 pt_M_6_198 d139_24 ⟨rfl, rfl⟩ ⟨⟨rfl, Nat.le_of_ble_eq_true rfl, Nat.le_of_ble_eq_true rfl, Nat.le_of_ble_eq_true rfl, Nat.le_of_ble_eq_true rfl⟩, rfl⟩
theorem d139_27 : decode cX6_byOption 27 = .ok (.i2l, 1) := by decide +kernel
theorem z139_27 {st : List Value} {w : pm_H} {pl : pm_L} {x0 : Int32} : pm_ev 139 27 pl (.int x0 :: st) w = pm_ev 139 28 pl (.long x0.toInt64 :: st) w := pm_ny pt_139 d139_27 rfl rfl rfl
theorem d139_28 : decode cX6_byOption 28 = .ok (.aload_n 0, 1) := by decide +kernel
theorem z139_28 {st : List Value} {w : pm_H} {b1 b2 b3 b4 : Option Value} {x0 : Nat} : pm_ev 139 28 [some (.ref x0), b1, b2, b3, b4] st w = pm_ev 139 29 [some (.ref x0), b1, b2, b3, b4] (.ref x0 :: st) w := pm_ny pt_139 d139_28 rfl rfl rfl
theorem d139_29 : decode cX6_byOption 29 = .ok (.iload_n 1, 1) := by decide +kernel
theorem z139_29 {st : List Value} {w : pm_H} {b0 b2 b3 b4 : Option Value} {x0 : Int32} : pm_ev 139 29 [b0, some (.int x0), b2, b3, b4] st w = pm_ev 139 30 [b0, some (.int x0), b2, b3, b4] (.int x0 :: st) w := pm_ny pt_139 d139_29 rfl rfl rfl
theorem d139_30 : decode cX6_byOption 30 = .ok (.iload_n 2, 1) := by decide +kernel
theorem z139_30 {st : List Value} {w : pm_H} {b0 b1 b3 b4 : Option Value} {x0 : Int32} : pm_ev 139 30 [b0, b1, some (.int x0), b3, b4] st w = pm_ev 139 31 [b0, b1, some (.int x0), b3, b4] (.int x0 :: st) w := pm_ny pt_139 d139_30 rfl rfl rfl
theorem d139_31 : decode cX6_byOption 31 = .ok (.iload_n 2, 1) := by decide +kernel
theorem z139_31 {st : List Value} {w : pm_H} {b0 b1 b3 b4 : Option Value} {x0 : Int32} : pm_ev 139 31 [b0, b1, some (.int x0), b3, b4] st w = pm_ev 139 32 [b0, b1, some (.int x0), b3, b4] (.int x0 :: st) w := pm_ny pt_139 d139_31 rfl rfl rfl
theorem d139_32 : decode cX6_byOption 32 = .ok (.invokevirtual 204, 3) := by decide +kernel
theorem z139_32 {w : pm_H} {b0 b1 b2 b3 b4 : Option Value} {x0 : Int32} {x1 : Int32} {x2 : Int32} {x3 : Nat} {x4 : Int64} : pm_ev 139 32 [b0, b1, b2, b3, b4] [.int x0, .int x1, .int x2, .ref x3, .long x4] w = pm_k 139 35 [b0, b1, b2, b3, b4] [.long x4] (pm_vc (w x3) 6 (pm_call 137 [.ref x3, .int x2, .int x1, .int x0] w)) := pm_nv pt_139 pt_137 pt_M_6_204 d139_32 ⟨rfl, rfl⟩ ⟨⟨rfl, Nat.le_of_ble_eq_true rfl, Nat.le_of_ble_eq_true rfl, Nat.le_of_ble_eq_true rfl, Nat.le_of_ble_eq_true rfl⟩, rfl⟩
theorem d139_35 : decode cX6_byOption 35 = .ok (.i2l, 1) := by decide +kernel
theorem z139_35 {st : List Value} {w : pm_H} {pl : pm_L} {x0 : Int32} : pm_ev 139 35 pl (.int x0 :: st) w = pm_ev 139 36 pl (.long x0.toInt64 :: st) w := pm_ny pt_139 d139_35 rfl rfl rfl
theorem d139_36 : decode cX6_byOption 36 = .ok (.lmul, 1) := by decide +kernel
theorem z139_36 {st : List Value} {w : pm_H} {pl : pm_L} {x0 x1 : Int64} : pm_ev 139 36 pl (.long x1 :: .long x0 :: st) w = pm_ev 139 37 pl (.long (x0 * x1) :: st) w := pm_ny pt_139 d139_36 rfl rfl rfl
theorem d139_37 : decode cX6_byOption 37 = .ok (.iload 4, 2) := by decide +kernel
theorem z139_37 {st : List Value} {w : pm_H} {b0 b1 b2 b3 : Option Value} {x0 : Int32} : pm_ev 139 37 [b0, b1, b2, b3, some (.int x0)] st w = pm_ev 139 39 [b0, b1, b2, b3, some (.int x0)] (.int x0 :: st) w := pm_ny pt_139 d139_37 rfl rfl rfl
theorem d139_39 : decode cX6_byOption 39 = .ok (.i2l, 1) := by decide +kernel
theorem z139_39 {st : List Value} {w : pm_H} {pl : pm_L} {x0 : Int32} : pm_ev 139 39 pl (.int x0 :: st) w = pm_ev 139 40 pl (.long x0.toInt64 :: st) w := pm_ny pt_139 d139_39 rfl rfl rfl
theorem d139_40 : decode cX6_byOption 40 = .ok (.lmul, 1) := by decide +kernel
theorem z139_40 {st : List Value} {w : pm_H} {pl : pm_L} {x0 x1 : Int64} : pm_ev 139 40 pl (.long x1 :: .long x0 :: st) w = pm_ev 139 41 pl (.long (x0 * x1) :: st) w := pm_ny pt_139 d139_40 rfl rfl rfl
theorem d139_41 : decode cX6_byOption 41 = .ok (.iload_n 3, 1) := by decide +kernel
theorem z139_41 {st : List Value} {w : pm_H} {b0 b1 b2 b4 : Option Value} {x0 : Int32} : pm_ev 139 41 [b0, b1, b2, some (.int x0), b4] st w = pm_ev 139 42 [b0, b1, b2, some (.int x0), b4] (.int x0 :: st) w := pm_ny pt_139 d139_41 rfl rfl rfl
theorem d139_42 : decode cX6_byOption 42 = .ok (.i2l, 1) := by decide +kernel
theorem z139_42 {st : List Value} {w : pm_H} {pl : pm_L} {x0 : Int32} : pm_ev 139 42 pl (.int x0 :: st) w = pm_ev 139 43 pl (.long x0.toInt64 :: st) w := pm_ny pt_139 d139_42 rfl rfl rfl
theorem d139_43 : decode cX6_byOption 43 = .ok (.ldiv, 1) := by decide +kernel
theorem z139_43 {st : List Value} {w : pm_H} {pl : pm_L} {x0 x1 : Int64} : pm_ev 139 43 pl (.long x1 :: .long x0 :: st) w = pm_kv 139 44 pl st w (pm_dv x0 x1) := pm_nd pt_139 d139_43
theorem d139_44 : decode cX6_byOption 44 = .ok (.goto 4, 3) := by decide +kernel
theorem z139_44 {st : List Value} {w : pm_H} {pl : pm_L} : pm_ev 139 44 pl st w = pm_ev 139 48 pl st w := pm_ny pt_139 d139_44 rfl rfl rfl
theorem d139_47 : decode cX6_byOption 47 = .ok (.lconst 0, 1) := by decide +kernel
theorem z139_47 {st : List Value} {w : pm_H} {pl : pm_L} : pm_ev 139 47 pl st w = pm_ev 139 48 pl (.long 0 :: st) w := pm_ny pt_139 d139_47 rfl rfl rfl
theorem d139_48 : decode cX6_byOption 48 = .ok (.lreturn, 1) := by decide +kernel
theorem z139_48 {w : pm_H} {pl : pm_L} {x0 : Int64} : pm_ev 139 48 pl [.long x0] w = some (some (.long x0), w) := pm_nr pt_139 d139_48 rfl
theorem d140_0 : decode cX6_priceOf 0 = .ok (.aload_n 0, 1) := by decide +kernel
theorem z140_0 {st : List Value} {w : pm_H} {b1 b2 : Option Value} {x0 : Nat} : pm_ev 140 0 [some (.ref x0), b1, b2] st w = pm_ev 140 1 [some (.ref x0), b1, b2] (.ref x0 :: st) w := pm_ny pt_140 d140_0 rfl rfl rfl
theorem d140_1 : decode cX6_priceOf 1 = .ok (.getfield 84, 3) := by decide +kernel
theorem z140_1 {st : List Value} {w : pm_H} {pl : pm_L} {x0 : Nat} : pm_ev 140 1 pl (.ref x0 :: st) w = pm_kv 140 4 pl st w (pm_gf (w x0) 6 11) := pm_ng pt_140 pt_F_6_84 d140_1
theorem d140_4 : decode cX6_priceOf 4 = .ok (.iconst 1, 1) := by decide +kernel
theorem z140_4 {st : List Value} {w : pm_H} {pl : pm_L} : pm_ev 140 4 pl st w = pm_ev 140 5 pl (.int 1 :: st) w := pm_ny pt_140 d140_4 rfl rfl rfl
theorem d140_5 : decode cX6_priceOf 5 = .ok (.iconst 2, 1) := by decide +kernel
theorem z140_5 {st : List Value} {w : pm_H} {pl : pm_L} : pm_ev 140 5 pl st w = pm_ev 140 6 pl (.int 2 :: st) w := pm_ny pt_140 d140_5 rfl rfl rfl
theorem d140_6 : decode cX6_priceOf 6 = .ok (.iload_n 2, 1) := by decide +kernel
theorem z140_6 {st : List Value} {w : pm_H} {b0 b1 : Option Value} {x0 : Int32} : pm_ev 140 6 [b0, b1, some (.int x0)] st w = pm_ev 140 7 [b0, b1, some (.int x0)] (.int x0 :: st) w := pm_ny pt_140 d140_6 rfl rfl rfl
theorem d140_7 : decode cX6_priceOf 7 = .ok (.imul, 1) := by decide +kernel
theorem z140_7 {st : List Value} {w : pm_H} {pl : pm_L} {x0 x1 : Int32} : pm_ev 140 7 pl (.int x1 :: .int x0 :: st) w = pm_ev 140 8 pl (.int (x0 * x1) :: st) w := pm_ny pt_140 d140_7 rfl rfl rfl
theorem d140_8 : decode cX6_priceOf 8 = .ok (.iadd, 1) := by decide +kernel
theorem z140_8 {st : List Value} {w : pm_H} {pl : pm_L} {x0 x1 : Int32} : pm_ev 140 8 pl (.int x1 :: .int x0 :: st) w = pm_ev 140 9 pl (.int (x0 + x1) :: st) w := pm_ny pt_140 d140_8 rfl rfl rfl
theorem d140_9 : decode cX6_priceOf 9 = .ok (.iconst 1, 1) := by decide +kernel
theorem z140_9 {st : List Value} {w : pm_H} {pl : pm_L} : pm_ev 140 9 pl st w = pm_ev 140 10 pl (.int 1 :: st) w := pm_ny pt_140 d140_9 rfl rfl rfl
theorem d140_10 : decode cX6_priceOf 10 = .ok (.iadd, 1) := by decide +kernel
theorem z140_10 {st : List Value} {w : pm_H} {pl : pm_L} {x0 x1 : Int32} : pm_ev 140 10 pl (.int x1 :: .int x0 :: st) w = pm_ev 140 11 pl (.int (x0 + x1) :: st) w := pm_ny pt_140 d140_10 rfl rfl rfl
theorem d140_11 : decode cX6_priceOf 11 = .ok (.iaload, 1) := by decide +kernel
theorem z140_11 {st : List Value} {w : pm_H} {pl : pm_L} {x0 : Nat} {x1 : Int32} : pm_ev 140 11 pl (.int x1 :: .ref x0 :: st) w = pm_kv 140 12 pl st w (pm_ia (w x0) 0 x1) := pm_nia pt_140 d140_11
theorem d140_12 : decode cX6_priceOf 12 = .ok (.aload_n 0, 1) := by decide +kernel
theorem z140_12 {st : List Value} {w : pm_H} {b1 b2 : Option Value} {x0 : Nat} : pm_ev 140 12 [some (.ref x0), b1, b2] st w = pm_ev 140 13 [some (.ref x0), b1, b2] (.ref x0 :: st) w := pm_ny pt_140 d140_12 rfl rfl rfl
theorem d140_13 : decode cX6_priceOf 13 = .ok (.aload_n 0, 1) := by decide +kernel
theorem z140_13 {st : List Value} {w : pm_H} {b1 b2 : Option Value} {x0 : Nat} : pm_ev 140 13 [some (.ref x0), b1, b2] st w = pm_ev 140 14 [some (.ref x0), b1, b2] (.ref x0 :: st) w := pm_ny pt_140 d140_13 rfl rfl rfl
theorem d140_14 : decode cX6_priceOf 14 = .ok (.iload_n 1, 1) := by decide +kernel
theorem z140_14 {st : List Value} {w : pm_H} {b0 b2 : Option Value} {x0 : Int32} : pm_ev 140 14 [b0, some (.int x0), b2] st w = pm_ev 140 15 [b0, some (.int x0), b2] (.int x0 :: st) w := pm_ny pt_140 d140_14 rfl rfl rfl
theorem d140_15 : decode cX6_priceOf 15 = .ok (.iconst 1, 1) := by decide +kernel
theorem z140_15 {st : List Value} {w : pm_H} {pl : pm_L} : pm_ev 140 15 pl st w = pm_ev 140 16 pl (.int 1 :: st) w := pm_ny pt_140 d140_15 rfl rfl rfl
theorem d140_16 : decode cX6_priceOf 16 = .ok (.invokevirtual 179, 3) := by decide +kernel
theorem z140_16 {w : pm_H} {b0 b1 b2 : Option Value} {x0 : Int32} {x1 : Int32} {x2 : Nat} {x3 : Nat} {x4 : Int32} : pm_ev 140 16 [b0, b1, b2] [.int x0, .int x1, .ref x2, .ref x3, .int x4] w = pm_k 140 19 [b0, b1, b2] [.ref x3, .int x4] (pm_vc (w x2) 6 (pm_call 131 [.ref x2, .int x1, .int x0] w)) := pm_nv pt_140 pt_131 pt_M_6_179 d140_16 ⟨rfl, rfl⟩ ⟨⟨rfl, Nat.le_of_ble_eq_true rfl, Nat.le_of_ble_eq_true rfl, Nat.le_of_ble_eq_true rfl, Nat.le_of_ble_eq_true rfl⟩, rfl⟩
theorem d140_19 : decode cX6_priceOf 19 = .ok (.bipush 90, 2) := by decide +kernel
theorem z140_19 {st : List Value} {w : pm_H} {pl : pm_L} : pm_ev 140 19 pl st w = pm_ev 140 21 pl (.int 90 :: st) w := pm_ny pt_140 d140_19 rfl rfl rfl
theorem d140_21 : decode cX6_priceOf 21 = .ok (.iload_n 2, 1) := by decide +kernel
theorem z140_21 {st : List Value} {w : pm_H} {b0 b1 : Option Value} {x0 : Int32} : pm_ev 140 21 [b0, b1, some (.int x0)] st w = pm_ev 140 22 [b0, b1, some (.int x0)] (.int x0 :: st) w := pm_ny pt_140 d140_21 rfl rfl rfl
theorem d140_22 : decode cX6_priceOf 22 = .ok (.imul, 1) := by decide +kernel
theorem z140_22 {st : List Value} {w : pm_H} {pl : pm_L} {x0 x1 : Int32} : pm_ev 140 22 pl (.int x1 :: .int x0 :: st) w = pm_ev 140 23 pl (.int (x0 * x1) :: st) w := pm_ny pt_140 d140_22 rfl rfl rfl
theorem d140_23 : decode cX6_priceOf 23 = .ok (.bipush 89, 2) := by decide +kernel
theorem z140_23 {st : List Value} {w : pm_H} {pl : pm_L} : pm_ev 140 23 pl st w = pm_ev 140 25 pl (.int 89 :: st) w := pm_ny pt_140 d140_23 rfl rfl rfl
theorem d140_25 : decode cX6_priceOf 25 = .ok (.iadd, 1) := by decide +kernel
theorem z140_25 {st : List Value} {w : pm_H} {pl : pm_L} {x0 x1 : Int32} : pm_ev 140 25 pl (.int x1 :: .int x0 :: st) w = pm_ev 140 26 pl (.int (x0 + x1) :: st) w := pm_ny pt_140 d140_25 rfl rfl rfl
theorem d140_26 : decode cX6_priceOf 26 = .ok (.invokevirtual 175, 3) := by decide +kernel
theorem z140_26 {w : pm_H} {b0 b1 b2 : Option Value} {x0 : Int32} {x1 : Int32} {x2 : Nat} {x3 : Int32} : pm_ev 140 26 [b0, b1, b2] [.int x0, .int x1, .ref x2, .int x3] w = pm_k 140 29 [b0, b1, b2] [.int x3] (pm_vc (w x2) 6 (pm_call 123 [.ref x2, .int x1, .int x0] w)) := pm_nv pt_140 pt_123 pt_M_6_175 d140_26 ⟨rfl, rfl⟩ ⟨⟨rfl, Nat.le_of_ble_eq_true rfl, Nat.le_of_ble_eq_true rfl, Nat.le_of_ble_eq_true rfl, Nat.le_of_ble_eq_true rfl⟩, rfl⟩
theorem d140_29 : decode cX6_priceOf 29 = .ok (.imul, 1) := by decide +kernel
theorem z140_29 {st : List Value} {w : pm_H} {pl : pm_L} {x0 x1 : Int32} : pm_ev 140 29 pl (.int x1 :: .int x0 :: st) w = pm_ev 140 30 pl (.int (x0 * x1) :: st) w := pm_ny pt_140 d140_29 rfl rfl rfl
theorem d140_30 : decode cX6_priceOf 30 = .ok (.ireturn, 1) := by decide +kernel
theorem z140_30 {w : pm_H} {pl : pm_L} {x0 : Int32} : pm_ev 140 30 pl [.int x0] w = some (some (.int x0), w) := pm_nr pt_140 d140_30 rfl
theorem d141_0 : decode cX6_earningsOf 0 = .ok (.iconst 0, 1) := by decide +kernel
theorem z141_0 {st : List Value} {w : pm_H} {pl : pm_L} : pm_ev 141 0 pl st w = pm_ev 141 1 pl (.int 0 :: st) w := pm_ny pt_141 d141_0 rfl rfl rfl
theorem d141_1 : decode cX6_earningsOf 1 = .ok (.istore_n 3, 1) := by decide +kernel
theorem z141_1 {st : List Value} {w : pm_H} {b0 b1 b3 b4 : Option Value} {x0 : Int32} {x9 : Int32} : pm_ev 141 1 [b0, b1, some (.int x9), b3, b4] (.int x0 :: st) w = pm_ev 141 2 [b0, b1, some (.int x9), some (.int x0), b4] st w := pm_ny pt_141 d141_1 rfl rfl rfl
theorem d141_2 : decode cX6_earningsOf 2 = .ok (.iload_n 1, 1) := by decide +kernel
theorem z141_2 {st : List Value} {w : pm_H} {b0 b2 b3 b4 : Option Value} {x0 : Int32} : pm_ev 141 2 [b0, some (.int x0), b2, b3, b4] st w = pm_ev 141 3 [b0, some (.int x0), b2, b3, b4] (.int x0 :: st) w := pm_ny pt_141 d141_2 rfl rfl rfl
theorem d141_3 : decode cX6_earningsOf 3 = .ok (.istore 4, 2) := by decide +kernel
theorem z141_3 {st : List Value} {w : pm_H} {b0 b1 b2 b4 : Option Value} {x0 : Int32} {x9 : Int32} : pm_ev 141 3 [b0, b1, b2, some (.int x9), b4] (.int x0 :: st) w = pm_ev 141 5 [b0, b1, b2, some (.int x9), some (.int x0)] st w := pm_ny pt_141 d141_3 rfl rfl rfl
theorem d141_5 : decode cX6_earningsOf 5 = .ok (.iload 4, 2) := by decide +kernel
theorem z141_5 {st : List Value} {w : pm_H} {b0 b1 b2 b3 : Option Value} {x0 : Int32} : pm_ev 141 5 [b0, b1, b2, b3, some (.int x0)] st w = pm_ev 141 7 [b0, b1, b2, b3, some (.int x0)] (.int x0 :: st) w := pm_ny pt_141 d141_5 rfl rfl rfl
theorem d141_7 : decode cX6_earningsOf 7 = .ok (.iload_n 2, 1) := by decide +kernel
theorem z141_7 {st : List Value} {w : pm_H} {b0 b1 b3 b4 : Option Value} {x0 : Int32} : pm_ev 141 7 [b0, b1, some (.int x0), b3, b4] st w = pm_ev 141 8 [b0, b1, some (.int x0), b3, b4] (.int x0 :: st) w := pm_ny pt_141 d141_7 rfl rfl rfl
theorem d141_8 : decode cX6_earningsOf 8 = .ok (.if_icmp .gt 23, 3) := by decide +kernel
theorem z141_8 {st : List Value} {w : pm_H} {pl : pm_L} {x0 x1 : Int32} : pm_ev 141 8 pl (.int x1 :: .int x0 :: st) w = if x1 < x0 then pm_ev 141 31 pl st w else pm_ev 141 11 pl st w := pm_nif pt_141 d141_8 rfl rfl rfl
theorem d141_11 : decode cX6_earningsOf 11 = .ok (.iload_n 3, 1) := by decide +kernel
theorem z141_11 {st : List Value} {w : pm_H} {b0 b1 b2 b4 : Option Value} {x0 : Int32} : pm_ev 141 11 [b0, b1, b2, some (.int x0), b4] st w = pm_ev 141 12 [b0, b1, b2, some (.int x0), b4] (.int x0 :: st) w := pm_ny pt_141 d141_11 rfl rfl rfl
theorem d141_12 : decode cX6_earningsOf 12 = .ok (.aload_n 0, 1) := by decide +kernel
theorem z141_12 {st : List Value} {w : pm_H} {b1 b2 b3 b4 : Option Value} {x0 : Nat} : pm_ev 141 12 [some (.ref x0), b1, b2, b3, b4] st w = pm_ev 141 13 [some (.ref x0), b1, b2, b3, b4] (.ref x0 :: st) w := pm_ny pt_141 d141_12 rfl rfl rfl
theorem d141_13 : decode cX6_earningsOf 13 = .ok (.getfield 84, 3) := by decide +kernel
theorem z141_13 {st : List Value} {w : pm_H} {pl : pm_L} {x0 : Nat} : pm_ev 141 13 pl (.ref x0 :: st) w = pm_kv 141 16 pl st w (pm_gf (w x0) 6 11) := pm_ng pt_141 pt_F_6_84 d141_13
theorem d141_16 : decode cX6_earningsOf 16 = .ok (.iconst 1, 1) := by decide +kernel
theorem z141_16 {st : List Value} {w : pm_H} {pl : pm_L} : pm_ev 141 16 pl st w = pm_ev 141 17 pl (.int 1 :: st) w := pm_ny pt_141 d141_16 rfl rfl rfl
theorem d141_17 : decode cX6_earningsOf 17 = .ok (.iconst 2, 1) := by decide +kernel
theorem z141_17 {st : List Value} {w : pm_H} {pl : pm_L} : pm_ev 141 17 pl st w = pm_ev 141 18 pl (.int 2 :: st) w := pm_ny pt_141 d141_17 rfl rfl rfl
theorem d141_18 : decode cX6_earningsOf 18 = .ok (.iload 4, 2) := by decide +kernel
theorem z141_18 {st : List Value} {w : pm_H} {b0 b1 b2 b3 : Option Value} {x0 : Int32} : pm_ev 141 18 [b0, b1, b2, b3, some (.int x0)] st w = pm_ev 141 20 [b0, b1, b2, b3, some (.int x0)] (.int x0 :: st) w := pm_ny pt_141 d141_18 rfl rfl rfl
theorem d141_20 : decode cX6_earningsOf 20 = .ok (.imul, 1) := by decide +kernel
theorem z141_20 {st : List Value} {w : pm_H} {pl : pm_L} {x0 x1 : Int32} : pm_ev 141 20 pl (.int x1 :: .int x0 :: st) w = pm_ev 141 21 pl (.int (x0 * x1) :: st) w := pm_ny pt_141 d141_20 rfl rfl rfl
theorem d141_21 : decode cX6_earningsOf 21 = .ok (.iadd, 1) := by decide +kernel
theorem z141_21 {st : List Value} {w : pm_H} {pl : pm_L} {x0 x1 : Int32} : pm_ev 141 21 pl (.int x1 :: .int x0 :: st) w = pm_ev 141 22 pl (.int (x0 + x1) :: st) w := pm_ny pt_141 d141_21 rfl rfl rfl
theorem d141_22 : decode cX6_earningsOf 22 = .ok (.iaload, 1) := by decide +kernel
theorem z141_22 {st : List Value} {w : pm_H} {pl : pm_L} {x0 : Nat} {x1 : Int32} : pm_ev 141 22 pl (.int x1 :: .ref x0 :: st) w = pm_kv 141 23 pl st w (pm_ia (w x0) 0 x1) := pm_nia pt_141 d141_22
theorem d141_23 : decode cX6_earningsOf 23 = .ok (.iadd, 1) := by decide +kernel
theorem z141_23 {st : List Value} {w : pm_H} {pl : pm_L} {x0 x1 : Int32} : pm_ev 141 23 pl (.int x1 :: .int x0 :: st) w = pm_ev 141 24 pl (.int (x0 + x1) :: st) w := pm_ny pt_141 d141_23 rfl rfl rfl
theorem d141_24 : decode cX6_earningsOf 24 = .ok (.istore_n 3, 1) := by decide +kernel
theorem z141_24 {st : List Value} {w : pm_H} {b0 b1 b3 b4 : Option Value} {x0 : Int32} {x9 : Int32} : pm_ev 141 24 [b0, b1, some (.int x9), b3, b4] (.int x0 :: st) w = pm_ev 141 25 [b0, b1, some (.int x9), some (.int x0), b4] st w := pm_ny pt_141 d141_24 rfl rfl rfl
theorem d141_25 : decode cX6_earningsOf 25 = .ok (.iinc 4 1, 3) := by decide +kernel
theorem z141_25 {st : List Value} {w : pm_H} {b0 b1 b2 : Option Value} {x0 : Int32} {x9 : Int32} : pm_ev 141 25 [b0, b1, b2, some (.int x9), some (.int x0)] st w = pm_ev 141 28 [b0, b1, b2, some (.int x9), some (.int (x0 + 1))] st w := pm_ny pt_141 d141_25 rfl rfl rfl
theorem d141_28 : decode cX6_earningsOf 28 = .ok (.goto (-23), 3) := by decide +kernel
theorem z141_28 {st : List Value} {w : pm_H} {pl : pm_L} : pm_ev 141 28 pl st w = pm_ev 141 5 pl st w := pm_ny pt_141 d141_28 rfl rfl rfl
theorem d141_31 : decode cX6_earningsOf 31 = .ok (.iload_n 3, 1) := by decide +kernel
theorem z141_31 {st : List Value} {w : pm_H} {b0 b1 b2 b4 : Option Value} {x0 : Int32} : pm_ev 141 31 [b0, b1, b2, some (.int x0), b4] st w = pm_ev 141 32 [b0, b1, b2, some (.int x0), b4] (.int x0 :: st) w := pm_ny pt_141 d141_31 rfl rfl rfl
theorem d141_32 : decode cX6_earningsOf 32 = .ok (.ireturn, 1) := by decide +kernel
theorem z141_32 {w : pm_H} {pl : pm_L} {x0 : Int32} : pm_ev 141 32 pl [.int x0] w = some (some (.int x0), w) := pm_nr pt_141 d141_32 rfl
theorem d142_0 : decode cX6_run 0 = .ok (.aload_n 0, 1) := by decide +kernel
theorem z142_0 {st : List Value} {w : pm_H} {b1 b2 b3 b4 : Option Value} {x0 : Nat} : pm_ev 142 0 [some (.ref x0), b1, b2, b3, b4] st w = pm_ev 142 1 [some (.ref x0), b1, b2, b3, b4] (.ref x0 :: st) w := pm_ny pt_142 d142_0 rfl rfl rfl
theorem d142_1 : decode cX6_run 1 = .ok (.iconst 0, 1) := by decide +kernel
theorem z142_1 {st : List Value} {w : pm_H} {pl : pm_L} : pm_ev 142 1 pl st w = pm_ev 142 2 pl (.int 0 :: st) w := pm_ny pt_142 d142_1 rfl rfl rfl
theorem d142_2 : decode cX6_run 2 = .ok (.putfield 1, 3) := by decide +kernel
theorem z142_2 {st : List Value} {w : pm_H} {pl : pm_L} {x0 : Nat} {x1 : Int32} : pm_ev 142 2 pl (.int x1 :: .ref x0 :: st) w = pm_kw 142 5 pl st (pm_pf w x0 (w x0) 6 0 0 (.int x1)) := pm_np pt_142 pt_F_6_1 d142_2
theorem d142_5 : decode cX6_run 5 = .ok (.iload_n 1, 1) := by decide +kernel
theorem z142_5 {st : List Value} {w : pm_H} {b0 b2 b3 b4 : Option Value} {x0 : Int32} : pm_ev 142 5 [b0, some (.int x0), b2, b3, b4] st w = pm_ev 142 6 [b0, some (.int x0), b2, b3, b4] (.int x0 :: st) w := pm_ny pt_142 d142_5 rfl rfl rfl
theorem d142_6 : decode cX6_run 6 = .ok (.iload_n 2, 1) := by decide +kernel
theorem z142_6 {st : List Value} {w : pm_H} {b0 b1 b3 b4 : Option Value} {x0 : Int32} : pm_ev 142 6 [b0, b1, some (.int x0), b3, b4] st w = pm_ev 142 7 [b0, b1, some (.int x0), b3, b4] (.int x0 :: st) w := pm_ny pt_142 d142_6 rfl rfl rfl
theorem d142_7 : decode cX6_run 7 = .ok (.invokestatic 217, 3) := by decide +kernel
theorem z142_7 {w : pm_H} {b0 b1 b2 b3 b4 : Option Value} {x0 : Int32} {x1 : Int32} : pm_ev 142 7 [b0, b1, b2, b3, b4] [.int x0, .int x1] w = pm_k 142 10 [b0, b1, b2, b3, b4] [] (pm_call 133 [.int x1, .int x0] w) := pm_ns pt_142 pt_133 pt_M_6_217 (Or.inl rfl) d142_7 ⟨rfl, rfl⟩ ⟨⟨rfl, Nat.le_of_ble_eq_true rfl, Nat.le_of_ble_eq_true rfl, Nat.le_of_ble_eq_true rfl, Nat.le_of_ble_eq_true rfl⟩, rfl⟩
theorem d142_10 : decode cX6_run 10 = .ok (.ifCond .eq 12, 3) := by decide +kernel
theorem z142_10 {st : List Value} {w : pm_H} {pl : pm_L} {x0 : Int32} : pm_ev 142 10 pl (.int x0 :: st) w = if x0 = 0 then pm_ev 142 22 pl st w else pm_ev 142 13 pl st w := pm_nif pt_142 d142_10 rfl rfl rfl
theorem d142_13 : decode cX6_run 13 = .ok (.iload_n 3, 1) := by decide +kernel
theorem z142_13 {st : List Value} {w : pm_H} {b0 b1 b2 b4 : Option Value} {x0 : Int32} : pm_ev 142 13 [b0, b1, b2, some (.int x0), b4] st w = pm_ev 142 14 [b0, b1, b2, some (.int x0), b4] (.int x0 :: st) w := pm_ny pt_142 d142_13 rfl rfl rfl
theorem d142_14 : decode cX6_run 14 = .ok (.iconst 0, 1) := by decide +kernel
theorem z142_14 {st : List Value} {w : pm_H} {pl : pm_L} : pm_ev 142 14 pl st w = pm_ev 142 15 pl (.int 0 :: st) w := pm_ny pt_142 d142_14 rfl rfl rfl
theorem d142_15 : decode cX6_run 15 = .ok (.iconst 5, 1) := by decide +kernel
theorem z142_15 {st : List Value} {w : pm_H} {pl : pm_L} : pm_ev 142 15 pl st w = pm_ev 142 16 pl (.int 5 :: st) w := pm_ny pt_142 d142_15 rfl rfl rfl
theorem d142_16 : decode cX6_run 16 = .ok (.invokestatic 110, 3) := by decide +kernel
theorem z142_16 {w : pm_H} {b0 b1 b2 b3 b4 : Option Value} {x0 : Int32} {x1 : Int32} {x2 : Int32} : pm_ev 142 16 [b0, b1, b2, b3, b4] [.int x0, .int x1, .int x2] w = pm_k 142 19 [b0, b1, b2, b3, b4] [] (pm_call 96 [.int x2, .int x1, .int x0] w) := pm_ns pt_142 pt_96 pt_M_6_110 (Or.inl rfl) d142_16 ⟨rfl, rfl⟩ ⟨⟨rfl, Nat.le_of_ble_eq_true rfl, Nat.le_of_ble_eq_true rfl, Nat.le_of_ble_eq_true rfl, Nat.le_of_ble_eq_true rfl⟩, rfl⟩
theorem d142_19 : decode cX6_run 19 = .ok (.ifCond .ne 8, 3) := by decide +kernel
theorem z142_19 {st : List Value} {w : pm_H} {pl : pm_L} {x0 : Int32} : pm_ev 142 19 pl (.int x0 :: st) w = if x0 = 0 then pm_ev 142 22 pl st w else pm_ev 142 27 pl st w := pm_nin (c := ¬ x0 = 0) pt_142 d142_19 rfl rfl rfl Iff.rfl
theorem d142_22 : decode cX6_run 22 = .ok (.aload_n 0, 1) := by decide +kernel
theorem z142_22 {st : List Value} {w : pm_H} {b1 b2 b3 b4 : Option Value} {x0 : Nat} : pm_ev 142 22 [some (.ref x0), b1, b2, b3, b4] st w = pm_ev 142 23 [some (.ref x0), b1, b2, b3, b4] (.ref x0 :: st) w := pm_ny pt_142 d142_22 rfl rfl rfl
theorem d142_23 : decode cX6_run 23 = .ok (.invokevirtual 191, 3) := by decide +kernel
theorem z142_23 {w : pm_H} {b0 b1 b2 b3 b4 : Option Value} {x0 : Nat} : pm_ev 142 23 [b0, b1, b2, b3, b4] [.ref x0] w = pm_k 142 26 [b0, b1, b2, b3, b4] [] (pm_vc (w x0) 6 (pm_call 126 [.ref x0] w)) := pm_nv pt_142 pt_126 pt_M_6_191 d142_23 ⟨rfl, rfl⟩ ⟨⟨rfl, Nat.le_of_ble_eq_true rfl, Nat.le_of_ble_eq_true rfl, Nat.le_of_ble_eq_true rfl, Nat.le_of_ble_eq_true rfl⟩, rfl⟩
theorem d142_26 : decode cX6_run 26 = .ok (.ireturn, 1) := by decide +kernel
theorem z142_26 {w : pm_H} {pl : pm_L} {x0 : Int32} : pm_ev 142 26 pl [.int x0] w = some (some (.int x0), w) := pm_nr pt_142 d142_26 rfl
theorem d142_27 : decode cX6_run 27 = .ok (.aload_n 0, 1) := by decide +kernel
theorem z142_27 {st : List Value} {w : pm_H} {b1 b2 b3 b4 : Option Value} {x0 : Nat} : pm_ev 142 27 [some (.ref x0), b1, b2, b3, b4] st w = pm_ev 142 28 [some (.ref x0), b1, b2, b3, b4] (.ref x0 :: st) w := pm_ny pt_142 d142_27 rfl rfl rfl
theorem d142_28 : decode cX6_run 28 = .ok (.iload_n 1, 1) := by decide +kernel
theorem z142_28 {st : List Value} {w : pm_H} {b0 b2 b3 b4 : Option Value} {x0 : Int32} : pm_ev 142 28 [b0, some (.int x0), b2, b3, b4] st w = pm_ev 142 29 [b0, some (.int x0), b2, b3, b4] (.int x0 :: st) w := pm_ny pt_142 d142_28 rfl rfl rfl
theorem d142_29 : decode cX6_run 29 = .ok (.iload_n 2, 1) := by decide +kernel
theorem z142_29 {st : List Value} {w : pm_H} {b0 b1 b3 b4 : Option Value} {x0 : Int32} : pm_ev 142 29 [b0, b1, some (.int x0), b3, b4] st w = pm_ev 142 30 [b0, b1, some (.int x0), b3, b4] (.int x0 :: st) w := pm_ny pt_142 d142_29 rfl rfl rfl
theorem d142_30 : decode cX6_run 30 = .ok (.iconst (-1), 1) := by decide +kernel
theorem z142_30 {st : List Value} {w : pm_H} {pl : pm_L} : pm_ev 142 30 pl st w = pm_ev 142 31 pl (.int (-1) :: st) w := pm_ny pt_142 d142_30 rfl rfl rfl
theorem d142_31 : decode cX6_run 31 = .ok (.invokevirtual 263, 3) := by decide +kernel
theorem z142_31 {w : pm_H} {b0 b1 b2 b3 b4 : Option Value} {x0 : Int32} {x1 : Int32} {x2 : Int32} {x3 : Nat} : pm_ev 142 31 [b0, b1, b2, b3, b4] [.int x0, .int x1, .int x2, .ref x3] w = pm_k 142 34 [b0, b1, b2, b3, b4] [] (pm_vc (w x3) 6 (pm_call 143 [.ref x3, .int x2, .int x1, .int x0] w)) := pm_nv pt_142 pt_143 pt_M_6_263 d142_31 ⟨rfl, rfl⟩ ⟨⟨rfl, Nat.le_of_ble_eq_true rfl, Nat.le_of_ble_eq_true rfl, Nat.le_of_ble_eq_true rfl, Nat.le_of_ble_eq_true rfl⟩, rfl⟩
theorem d142_34 : decode cX6_run 34 = .ok (.istore 4, 2) := by decide +kernel
theorem z142_34 {st : List Value} {w : pm_H} {b0 b1 b2 b4 : Option Value} {x0 : Int32} {x9 : Int32} : pm_ev 142 34 [b0, b1, b2, some (.int x9), b4] (.int x0 :: st) w = pm_ev 142 36 [b0, b1, b2, some (.int x9), some (.int x0)] st w := pm_ny pt_142 d142_34 rfl rfl rfl
theorem d142_36 : decode cX6_run 36 = .ok (.iload_n 3, 1) := by decide +kernel
theorem z142_36 {st : List Value} {w : pm_H} {b0 b1 b2 b4 : Option Value} {x0 : Int32} : pm_ev 142 36 [b0, b1, b2, some (.int x0), b4] st w = pm_ev 142 37 [b0, b1, b2, some (.int x0), b4] (.int x0 :: st) w := pm_ny pt_142 d142_36 rfl rfl rfl
theorem d142_37 : decode cX6_run 37 = .ok (.tableswitch 74 0 4 #[35, 42, 61, 64, 69], 35) := by decide +kernel
theorem z142_37 {st : List Value} {w : pm_H} {pl : pm_L} {x0 : Int32} : pm_ev 142 37 pl (.int x0 :: st) w = if x0 = 0 then pm_ev 142 72 pl st w else if x0 = 1 then pm_ev 142 79 pl st w else if x0 = 2 then pm_ev 142 98 pl st w else if x0 = 3 then pm_ev 142 101 pl st w else if x0 = 4 then pm_ev 142 106 pl st w else pm_ev 142 111 pl st w := by
  by_cases h0 : x0 = 0
  · subst h0; exact pm_ny pt_142 d142_37 rfl rfl rfl
  by_cases h1 : x0 = 1
  · subst h1; exact pm_ny pt_142 d142_37 rfl rfl rfl
  by_cases h2 : x0 = 2
  · subst h2; exact pm_ny pt_142 d142_37 rfl rfl rfl
  by_cases h3 : x0 = 3
  · subst h3; exact pm_ny pt_142 d142_37 rfl rfl rfl
  by_cases h4 : x0 = 4
  · subst h4; exact pm_ny pt_142 d142_37 rfl rfl rfl
  rw [if_neg h0, if_neg h1, if_neg h2, if_neg h3, if_neg h4]
  have hx : x0.toInt < 0 ∨ 4 < x0.toInt := by
    have e0 : x0.toInt ≠ 0 := fun h => h0 (Int32.toInt_inj.mp (h.trans (by decide)))
    have e1 : x0.toInt ≠ 1 := fun h => h1 (Int32.toInt_inj.mp (h.trans (by decide)))
    have e2 : x0.toInt ≠ 2 := fun h => h2 (Int32.toInt_inj.mp (h.trans (by decide)))
    have e3 : x0.toInt ≠ 3 := fun h => h3 (Int32.toInt_inj.mp (h.trans (by decide)))
    have e4 : x0.toInt ≠ 4 := fun h => h4 (Int32.toInt_inj.mp (h.trans (by decide)))
    omega
  exact pm_ny (pc' := 111) (pl' := pl) (st' := st) (w' := w) pt_142 d142_37 rfl rfl (show pm_or (if x0.toInt < 0 ∨ 4 < x0.toInt then some (111, pl, st, w) else _) _ = _ by rw [if_pos hx]; rfl)
theorem d142_72 : decode cX6_run 72 = .ok (.aload_n 0, 1) := by decide +kernel
theorem z142_72 {st : List Value} {w : pm_H} {b1 b2 b3 b4 : Option Value} {x0 : Nat} : pm_ev 142 72 [some (.ref x0), b1, b2, b3, b4] st w = pm_ev 142 73 [some (.ref x0), b1, b2, b3, b4] (.ref x0 :: st) w := pm_ny pt_142 d142_72 rfl rfl rfl
theorem d142_73 : decode cX6_run 73 = .ok (.iload_n 1, 1) := by decide +kernel
theorem z142_73 {st : List Value} {w : pm_H} {b0 b2 b3 b4 : Option Value} {x0 : Int32} : pm_ev 142 73 [b0, some (.int x0), b2, b3, b4] st w = pm_ev 142 74 [b0, some (.int x0), b2, b3, b4] (.int x0 :: st) w := pm_ny pt_142 d142_73 rfl rfl rfl
theorem d142_74 : decode cX6_run 74 = .ok (.iload_n 2, 1) := by decide +kernel
theorem z142_74 {st : List Value} {w : pm_H} {b0 b1 b3 b4 : Option Value} {x0 : Int32} : pm_ev 142 74 [b0, b1, some (.int x0), b3, b4] st w = pm_ev 142 75 [b0, b1, some (.int x0), b3, b4] (.int x0 :: st) w := pm_ny pt_142 d142_74 rfl rfl rfl
theorem d142_75 : decode cX6_run 75 = .ok (.invokevirtual 212, 3) := by decide +kernel
theorem z142_75 {w : pm_H} {b0 b1 b2 b3 b4 : Option Value} {x0 : Int32} {x1 : Int32} {x2 : Nat} : pm_ev 142 75 [b0, b1, b2, b3, b4] [.int x0, .int x1, .ref x2] w = pm_k 142 78 [b0, b1, b2, b3, b4] [] (pm_vc (w x2) 6 (pm_call 141 [.ref x2, .int x1, .int x0] w)) := pm_nv pt_142 pt_141 pt_M_6_212 d142_75 ⟨rfl, rfl⟩ ⟨⟨rfl, Nat.le_of_ble_eq_true rfl, Nat.le_of_ble_eq_true rfl, Nat.le_of_ble_eq_true rfl, Nat.le_of_ble_eq_true rfl⟩, rfl⟩
theorem d142_78 : decode cX6_run 78 = .ok (.ireturn, 1) := by decide +kernel
theorem z142_78 {w : pm_H} {pl : pm_L} {x0 : Int32} : pm_ev 142 78 pl [.int x0] w = some (some (.int x0), w) := pm_nr pt_142 d142_78 rfl
theorem d142_79 : decode cX6_run 79 = .ok (.aload_n 0, 1) := by decide +kernel
theorem z142_79 {st : List Value} {w : pm_H} {b1 b2 b3 b4 : Option Value} {x0 : Nat} : pm_ev 142 79 [some (.ref x0), b1, b2, b3, b4] st w = pm_ev 142 80 [some (.ref x0), b1, b2, b3, b4] (.ref x0 :: st) w := pm_ny pt_142 d142_79 rfl rfl rfl
theorem d142_80 : decode cX6_run 80 = .ok (.iload_n 1, 1) := by decide +kernel
theorem z142_80 {st : List Value} {w : pm_H} {b0 b2 b3 b4 : Option Value} {x0 : Int32} : pm_ev 142 80 [b0, some (.int x0), b2, b3, b4] st w = pm_ev 142 81 [b0, some (.int x0), b2, b3, b4] (.int x0 :: st) w := pm_ny pt_142 d142_80 rfl rfl rfl
theorem d142_81 : decode cX6_run 81 = .ok (.iload_n 2, 1) := by decide +kernel
theorem z142_81 {st : List Value} {w : pm_H} {b0 b1 b3 b4 : Option Value} {x0 : Int32} : pm_ev 142 81 [b0, b1, some (.int x0), b3, b4] st w = pm_ev 142 82 [b0, b1, some (.int x0), b3, b4] (.int x0 :: st) w := pm_ny pt_142 d142_81 rfl rfl rfl
theorem d142_82 : decode cX6_run 82 = .ok (.invokevirtual 212, 3) := by decide +kernel
theorem z142_82 {w : pm_H} {b0 b1 b2 b3 b4 : Option Value} {x0 : Int32} {x1 : Int32} {x2 : Nat} : pm_ev 142 82 [b0, b1, b2, b3, b4] [.int x0, .int x1, .ref x2] w = pm_k 142 85 [b0, b1, b2, b3, b4] [] (pm_vc (w x2) 6 (pm_call 141 [.ref x2, .int x1, .int x0] w)) := pm_nv pt_142 pt_141 pt_M_6_212 d142_82 ⟨rfl, rfl⟩ ⟨⟨rfl, Nat.le_of_ble_eq_true rfl, Nat.le_of_ble_eq_true rfl, Nat.le_of_ble_eq_true rfl, Nat.le_of_ble_eq_true rfl⟩, rfl⟩
theorem d142_85 : decode cX6_run 85 = .ok (.i2l, 1) := by decide +kernel
theorem z142_85 {st : List Value} {w : pm_H} {pl : pm_L} {x0 : Int32} : pm_ev 142 85 pl (.int x0 :: st) w = pm_ev 142 86 pl (.long x0.toInt64 :: st) w := pm_ny pt_142 d142_85 rfl rfl rfl
theorem d142_86 : decode cX6_run 86 = .ok (.aload_n 0, 1) := by decide +kernel
theorem z142_86 {st : List Value} {w : pm_H} {b1 b2 b3 b4 : Option Value} {x0 : Nat} : pm_ev 142 86 [some (.ref x0), b1, b2, b3, b4] st w = pm_ev 142 87 [some (.ref x0), b1, b2, b3, b4] (.ref x0 :: st) w := pm_ny pt_142 d142_86 rfl rfl rfl
theorem d142_87 : decode cX6_run 87 = .ok (.iload_n 1, 1) := by decide +kernel
theorem z142_87 {st : List Value} {w : pm_H} {b0 b2 b3 b4 : Option Value} {x0 : Int32} : pm_ev 142 87 [b0, some (.int x0), b2, b3, b4] st w = pm_ev 142 88 [b0, some (.int x0), b2, b3, b4] (.int x0 :: st) w := pm_ny pt_142 d142_87 rfl rfl rfl
theorem d142_88 : decode cX6_run 88 = .ok (.iload_n 2, 1) := by decide +kernel
theorem z142_88 {st : List Value} {w : pm_H} {b0 b1 b3 b4 : Option Value} {x0 : Int32} : pm_ev 142 88 [b0, b1, some (.int x0), b3, b4] st w = pm_ev 142 89 [b0, b1, some (.int x0), b3, b4] (.int x0 :: st) w := pm_ny pt_142 d142_88 rfl rfl rfl
theorem d142_89 : decode cX6_run 89 = .ok (.invokevirtual 221, 3) := by decide +kernel
theorem z142_89 {w : pm_H} {b0 b1 b2 b3 b4 : Option Value} {x0 : Int32} {x1 : Int32} {x2 : Nat} {x3 : Int64} : pm_ev 142 89 [b0, b1, b2, b3, b4] [.int x0, .int x1, .ref x2, .long x3] w = pm_k 142 92 [b0, b1, b2, b3, b4] [.long x3] (pm_vc (w x2) 6 (pm_call 134 [.ref x2, .int x1, .int x0] w)) := pm_nv pt_142 pt_134 pt_M_6_221 d142_89 ⟨rfl, rfl⟩ ⟨⟨rfl, Nat.le_of_ble_eq_true rfl, Nat.le_of_ble_eq_true rfl, Nat.le_of_ble_eq_true rfl, Nat.le_of_ble_eq_true rfl⟩, rfl⟩
theorem d142_92 : decode cX6_run 92 = .ok (.iload_n 1, 1) := by decide +kernel
theorem z142_92 {st : List Value} {w : pm_H} {b0 b2 b3 b4 : Option Value} {x0 : Int32} : pm_ev 142 92 [b0, some (.int x0), b2, b3, b4] st w = pm_ev 142 93 [b0, some (.int x0), b2, b3, b4] (.int x0 :: st) w := pm_ny pt_142 d142_92 rfl rfl rfl
theorem d142_93 : decode cX6_run 93 = .ok (.iload_n 2, 1) := by decide +kernel
theorem z142_93 {st : List Value} {w : pm_H} {b0 b1 b3 b4 : Option Value} {x0 : Int32} : pm_ev 142 93 [b0, b1, some (.int x0), b3, b4] st w = pm_ev 142 94 [b0, b1, some (.int x0), b3, b4] (.int x0 :: st) w := pm_ny pt_142 d142_93 rfl rfl rfl
theorem d142_94 : decode cX6_run 94 = .ok (.invokestatic 259, 3) := by decide +kernel
theorem z142_94 {w : pm_H} {b0 b1 b2 b3 b4 : Option Value} {x0 : Int32} {x1 : Int32} {x2 : Int64} {x3 : Int64} : pm_ev 142 94 [b0, b1, b2, b3, b4] [.int x0, .int x1, .long x2, .long x3] w = pm_k 142 97 [b0, b1, b2, b3, b4] [] (pm_call 147 [.long x3, .long x2, .int x1, .int x0] w) := pm_ns pt_142 pt_147 pt_M_6_259 (Or.inl rfl) d142_94 ⟨rfl, rfl⟩ ⟨⟨rfl, Nat.le_of_ble_eq_true rfl, Nat.le_of_ble_eq_true rfl, Nat.le_of_ble_eq_true rfl, Nat.le_of_ble_eq_true rfl⟩, rfl⟩
theorem d142_97 : decode cX6_run 97 = .ok (.ireturn, 1) := by decide +kernel
theorem z142_97 {w : pm_H} {pl : pm_L} {x0 : Int32} : pm_ev 142 97 pl [.int x0] w = some (some (.int x0), w) := pm_nr pt_142 d142_97 rfl
theorem d142_98 : decode cX6_run 98 = .ok (.iload 4, 2) := by decide +kernel
theorem z142_98 {st : List Value} {w : pm_H} {b0 b1 b2 b3 : Option Value} {x0 : Int32} : pm_ev 142 98 [b0, b1, b2, b3, some (.int x0)] st w = pm_ev 142 100 [b0, b1, b2, b3, some (.int x0)] (.int x0 :: st) w := pm_ny pt_142 d142_98 rfl rfl rfl
theorem d142_100 : decode cX6_run 100 = .ok (.ireturn, 1) := by decide +kernel
theorem z142_100 {w : pm_H} {pl : pm_L} {x0 : Int32} : pm_ev 142 100 pl [.int x0] w = some (some (.int x0), w) := pm_nr pt_142 d142_100 rfl
theorem d142_101 : decode cX6_run 101 = .ok (.aload_n 0, 1) := by decide +kernel
theorem z142_101 {st : List Value} {w : pm_H} {b1 b2 b3 b4 : Option Value} {x0 : Nat} : pm_ev 142 101 [some (.ref x0), b1, b2, b3, b4] st w = pm_ev 142 102 [some (.ref x0), b1, b2, b3, b4] (.ref x0 :: st) w := pm_ny pt_142 d142_101 rfl rfl rfl
theorem d142_102 : decode cX6_run 102 = .ok (.getfield 242, 3) := by decide +kernel
theorem z142_102 {st : List Value} {w : pm_H} {pl : pm_L} {x0 : Nat} : pm_ev 142 102 pl (.ref x0 :: st) w = pm_kv 142 105 pl st w (pm_gf (w x0) 6 19) := pm_ng pt_142 pt_F_6_242 d142_102
theorem d142_105 : decode cX6_run 105 = .ok (.ireturn, 1) := by decide +kernel
theorem z142_105 {w : pm_H} {pl : pm_L} {x0 : Int32} : pm_ev 142 105 pl [.int x0] w = some (some (.int x0), w) := pm_nr pt_142 d142_105 rfl
theorem d142_106 : decode cX6_run 106 = .ok (.aload_n 0, 1) := by decide +kernel
theorem z142_106 {st : List Value} {w : pm_H} {b1 b2 b3 b4 : Option Value} {x0 : Nat} : pm_ev 142 106 [some (.ref x0), b1, b2, b3, b4] st w = pm_ev 142 107 [some (.ref x0), b1, b2, b3, b4] (.ref x0 :: st) w := pm_ny pt_142 d142_106 rfl rfl rfl
theorem d142_107 : decode cX6_run 107 = .ok (.getfield 230, 3) := by decide +kernel
theorem z142_107 {st : List Value} {w : pm_H} {pl : pm_L} {x0 : Nat} : pm_ev 142 107 pl (.ref x0 :: st) w = pm_kv 142 110 pl st w (pm_gf (w x0) 6 18) := pm_ng pt_142 pt_F_6_230 d142_107
theorem d142_110 : decode cX6_run 110 = .ok (.ireturn, 1) := by decide +kernel
theorem z142_110 {w : pm_H} {pl : pm_L} {x0 : Int32} : pm_ev 142 110 pl [.int x0] w = some (some (.int x0), w) := pm_nr pt_142 d142_110 rfl
theorem d142_111 : decode cX6_run 111 = .ok (.aload_n 0, 1) := by decide +kernel
theorem z142_111 {st : List Value} {w : pm_H} {b1 b2 b3 b4 : Option Value} {x0 : Nat} : pm_ev 142 111 [some (.ref x0), b1, b2, b3, b4] st w = pm_ev 142 112 [some (.ref x0), b1, b2, b3, b4] (.ref x0 :: st) w := pm_ny pt_142 d142_111 rfl rfl rfl
theorem d142_112 : decode cX6_run 112 = .ok (.getfield 245, 3) := by decide +kernel
theorem z142_112 {st : List Value} {w : pm_H} {pl : pm_L} {x0 : Nat} : pm_ev 142 112 pl (.ref x0 :: st) w = pm_kv 142 115 pl st w (pm_gf (w x0) 6 20) := pm_ng pt_142 pt_F_6_245 d142_112
theorem d142_115 : decode cX6_run 115 = .ok (.ireturn, 1) := by decide +kernel
theorem z142_115 {w : pm_H} {pl : pm_L} {x0 : Int32} : pm_ev 142 115 pl [.int x0] w = some (some (.int x0), w) := pm_nr pt_142 d142_115 rfl
theorem d143_0 : decode cX6_diluted 0 = .ok (.aload_n 0, 1) := by decide +kernel
theorem z143_0 {st : List Value} {w : pm_H} {b1 b2 b3 : Option Value} {x0 : Nat} : pm_ev 143 0 [some (.ref x0), b1, b2, b3] st w = pm_ev 143 1 [some (.ref x0), b1, b2, b3] (.ref x0 :: st) w := pm_ny pt_143 d143_0 rfl rfl rfl
theorem d143_1 : decode cX6_diluted 1 = .ok (.iload_n 1, 1) := by decide +kernel
theorem z143_1 {st : List Value} {w : pm_H} {b0 b2 b3 : Option Value} {x0 : Int32} : pm_ev 143 1 [b0, some (.int x0), b2, b3] st w = pm_ev 143 2 [b0, some (.int x0), b2, b3] (.int x0 :: st) w := pm_ny pt_143 d143_1 rfl rfl rfl
theorem d143_2 : decode cX6_diluted 2 = .ok (.iload_n 2, 1) := by decide +kernel
theorem z143_2 {st : List Value} {w : pm_H} {b0 b1 b3 : Option Value} {x0 : Int32} : pm_ev 143 2 [b0, b1, some (.int x0), b3] st w = pm_ev 143 3 [b0, b1, some (.int x0), b3] (.int x0 :: st) w := pm_ny pt_143 d143_2 rfl rfl rfl
theorem d143_3 : decode cX6_diluted 3 = .ok (.iload_n 3, 1) := by decide +kernel
theorem z143_3 {st : List Value} {w : pm_H} {b0 b1 b2 : Option Value} {x0 : Int32} : pm_ev 143 3 [b0, b1, b2, some (.int x0)] st w = pm_ev 143 4 [b0, b1, b2, some (.int x0)] (.int x0 :: st) w := pm_ny pt_143 d143_3 rfl rfl rfl
theorem d143_4 : decode cX6_diluted 4 = .ok (.invokevirtual 255, 3) := by decide +kernel
theorem z143_4 {w : pm_H} {b0 b1 b2 b3 : Option Value} {x0 : Int32} {x1 : Int32} {x2 : Int32} {x3 : Nat} : pm_ev 143 4 [b0, b1, b2, b3] [.int x0, .int x1, .int x2, .ref x3] w = pm_k 143 7 [b0, b1, b2, b3] [] (pm_vc (w x3) 6 (pm_call 144 [.ref x3, .int x2, .int x1, .int x0] w)) := pm_nv pt_143 pt_144 pt_M_6_255 d143_4 ⟨rfl, rfl⟩ ⟨⟨rfl, Nat.le_of_ble_eq_true rfl, Nat.le_of_ble_eq_true rfl, Nat.le_of_ble_eq_true rfl, Nat.le_of_ble_eq_true rfl⟩, rfl⟩
theorem d143_7 : decode cX6_diluted 7 = .ok (.aload_n 0, 1) := by decide +kernel
theorem z143_7 {st : List Value} {w : pm_H} {b1 b2 b3 : Option Value} {x0 : Nat} : pm_ev 143 7 [some (.ref x0), b1, b2, b3] st w = pm_ev 143 8 [some (.ref x0), b1, b2, b3] (.ref x0 :: st) w := pm_ny pt_143 d143_7 rfl rfl rfl
theorem d143_8 : decode cX6_diluted 8 = .ok (.getfield 239, 3) := by decide +kernel
theorem z143_8 {st : List Value} {w : pm_H} {pl : pm_L} {x0 : Nat} : pm_ev 143 8 pl (.ref x0 :: st) w = pm_kv 143 11 pl st w (pm_gf (w x0) 6 22) := pm_ng pt_143 pt_F_6_239 d143_8
theorem d143_11 : decode cX6_diluted 11 = .ok (.aload_n 0, 1) := by decide +kernel
theorem z143_11 {st : List Value} {w : pm_H} {b1 b2 b3 : Option Value} {x0 : Nat} : pm_ev 143 11 [some (.ref x0), b1, b2, b3] st w = pm_ev 143 12 [some (.ref x0), b1, b2, b3] (.ref x0 :: st) w := pm_ny pt_143 d143_11 rfl rfl rfl
theorem d143_12 : decode cX6_diluted 12 = .ok (.getfield 236, 3) := by decide +kernel
theorem z143_12 {st : List Value} {w : pm_H} {pl : pm_L} {x0 : Nat} : pm_ev 143 12 pl (.ref x0 :: st) w = pm_kv 143 15 pl st w (pm_gf (w x0) 6 21) := pm_ng pt_143 pt_F_6_236 d143_12
theorem d143_15 : decode cX6_diluted 15 = .ok (.iload_n 1, 1) := by decide +kernel
theorem z143_15 {st : List Value} {w : pm_H} {b0 b2 b3 : Option Value} {x0 : Int32} : pm_ev 143 15 [b0, some (.int x0), b2, b3] st w = pm_ev 143 16 [b0, some (.int x0), b2, b3] (.int x0 :: st) w := pm_ny pt_143 d143_15 rfl rfl rfl
theorem d143_16 : decode cX6_diluted 16 = .ok (.iload_n 2, 1) := by decide +kernel
theorem z143_16 {st : List Value} {w : pm_H} {b0 b1 b3 : Option Value} {x0 : Int32} : pm_ev 143 16 [b0, b1, some (.int x0), b3] st w = pm_ev 143 17 [b0, b1, some (.int x0), b3] (.int x0 :: st) w := pm_ny pt_143 d143_16 rfl rfl rfl
theorem d143_17 : decode cX6_diluted 17 = .ok (.invokestatic 259, 3) := by decide +kernel
theorem z143_17 {w : pm_H} {b0 b1 b2 b3 : Option Value} {x0 : Int32} {x1 : Int32} {x2 : Int64} {x3 : Int64} : pm_ev 143 17 [b0, b1, b2, b3] [.int x0, .int x1, .long x2, .long x3] w = pm_k 143 20 [b0, b1, b2, b3] [] (pm_call 147 [.long x3, .long x2, .int x1, .int x0] w) := pm_ns pt_143 pt_147 pt_M_6_259 (Or.inl rfl) d143_17 ⟨rfl, rfl⟩ ⟨⟨rfl, Nat.le_of_ble_eq_true rfl, Nat.le_of_ble_eq_true rfl, Nat.le_of_ble_eq_true rfl, Nat.le_of_ble_eq_true rfl⟩, rfl⟩
theorem d143_20 : decode cX6_diluted 20 = .ok (.ireturn, 1) := by decide +kernel
theorem z143_20 {w : pm_H} {pl : pm_L} {x0 : Int32} : pm_ev 143 20 pl [.int x0] w = some (some (.int x0), w) := pm_nr pt_143 d143_20 rfl
theorem d144_0 : decode cX6_reckons 0 = .ok (.aload_n 0, 1) := by decide +kernel
theorem z144_0 {st : List Value} {w : pm_H} {b1 b2 b3 b4 b5 : Option Value} {x0 : Nat} : pm_ev 144 0 [some (.ref x0), b1, b2, b3, b4, b5] st w = pm_ev 144 1 [some (.ref x0), b1, b2, b3, b4, b5] (.ref x0 :: st) w := pm_ny pt_144 d144_0 rfl rfl rfl
theorem d144_1 : decode cX6_reckons 1 = .ok (.iconst 0, 1) := by decide +kernel
theorem z144_1 {st : List Value} {w : pm_H} {pl : pm_L} : pm_ev 144 1 pl st w = pm_ev 144 2 pl (.int 0 :: st) w := pm_ny pt_144 d144_1 rfl rfl rfl
theorem d144_2 : decode cX6_reckons 2 = .ok (.putfield 230, 3) := by decide +kernel
theorem z144_2 {st : List Value} {w : pm_H} {pl : pm_L} {x0 : Nat} {x1 : Int32} : pm_ev 144 2 pl (.int x1 :: .ref x0 :: st) w = pm_kw 144 5 pl st (pm_pf w x0 (w x0) 6 18 0 (.int x1)) := pm_np pt_144 pt_F_6_230 d144_2
theorem d144_5 : decode cX6_reckons 5 = .ok (.iconst 0, 1) := by decide +kernel
theorem z144_5 {st : List Value} {w : pm_H} {pl : pm_L} : pm_ev 144 5 pl st w = pm_ev 144 6 pl (.int 0 :: st) w := pm_ny pt_144 d144_5 rfl rfl rfl
theorem d144_6 : decode cX6_reckons 6 = .ok (.istore 4, 2) := by decide +kernel
theorem z144_6 {st : List Value} {w : pm_H} {b0 b1 b2 b4 b5 : Option Value} {x0 : Int32} {x9 : Int32} : pm_ev 144 6 [b0, b1, b2, some (.int x9), b4, b5] (.int x0 :: st) w = pm_ev 144 8 [b0, b1, b2, some (.int x9), some (.int x0), b5] st w := pm_ny pt_144 d144_6 rfl rfl rfl
theorem d144_8 : decode cX6_reckons 8 = .ok (.iload 4, 2) := by decide +kernel
theorem z144_8 {st : List Value} {w : pm_H} {b0 b1 b2 b3 b5 : Option Value} {x0 : Int32} : pm_ev 144 8 [b0, b1, b2, b3, some (.int x0), b5] st w = pm_ev 144 10 [b0, b1, b2, b3, some (.int x0), b5] (.int x0 :: st) w := pm_ny pt_144 d144_8 rfl rfl rfl
theorem d144_10 : decode cX6_reckons 10 = .ok (.aload_n 0, 1) := by decide +kernel
theorem z144_10 {st : List Value} {w : pm_H} {b1 b2 b3 b4 b5 : Option Value} {x0 : Nat} : pm_ev 144 10 [some (.ref x0), b1, b2, b3, b4, b5] st w = pm_ev 144 11 [some (.ref x0), b1, b2, b3, b4, b5] (.ref x0 :: st) w := pm_ny pt_144 d144_10 rfl rfl rfl
theorem d144_11 : decode cX6_reckons 11 = .ok (.getfield 84, 3) := by decide +kernel
theorem z144_11 {st : List Value} {w : pm_H} {pl : pm_L} {x0 : Nat} : pm_ev 144 11 pl (.ref x0 :: st) w = pm_kv 144 14 pl st w (pm_gf (w x0) 6 11) := pm_ng pt_144 pt_F_6_84 d144_11
theorem d144_14 : decode cX6_reckons 14 = .ok (.bipush 70, 2) := by decide +kernel
theorem z144_14 {st : List Value} {w : pm_H} {pl : pm_L} : pm_ev 144 14 pl st w = pm_ev 144 16 pl (.int 70 :: st) w := pm_ny pt_144 d144_14 rfl rfl rfl
theorem d144_16 : decode cX6_reckons 16 = .ok (.iaload, 1) := by decide +kernel
theorem z144_16 {st : List Value} {w : pm_H} {pl : pm_L} {x0 : Nat} {x1 : Int32} : pm_ev 144 16 pl (.int x1 :: .ref x0 :: st) w = pm_kv 144 17 pl st w (pm_ia (w x0) 0 x1) := pm_nia pt_144 d144_16
theorem d144_17 : decode cX6_reckons 17 = .ok (.if_icmp .ge 130, 3) := by decide +kernel
theorem z144_17 {st : List Value} {w : pm_H} {pl : pm_L} {x0 x1 : Int32} : pm_ev 144 17 pl (.int x1 :: .int x0 :: st) w = if x0 < x1 then pm_ev 144 20 pl st w else pm_ev 144 147 pl st w := pm_nin (c := x1 ≤ x0) pt_144 d144_17 rfl rfl rfl pm_ge
theorem d144_20 : decode cX6_reckons 20 = .ok (.aload_n 0, 1) := by decide +kernel
theorem z144_20 {st : List Value} {w : pm_H} {b1 b2 b3 b4 b5 : Option Value} {x0 : Nat} : pm_ev 144 20 [some (.ref x0), b1, b2, b3, b4, b5] st w = pm_ev 144 21 [some (.ref x0), b1, b2, b3, b4, b5] (.ref x0 :: st) w := pm_ny pt_144 d144_20 rfl rfl rfl
theorem d144_21 : decode cX6_reckons 21 = .ok (.getfield 93, 3) := by decide +kernel
theorem z144_21 {st : List Value} {w : pm_H} {pl : pm_L} {x0 : Nat} : pm_ev 144 21 pl (.ref x0 :: st) w = pm_kv 144 24 pl st w (pm_gf (w x0) 6 15) := pm_ng pt_144 pt_F_6_93 d144_21
theorem d144_24 : decode cX6_reckons 24 = .ok (.iload 4, 2) := by decide +kernel
theorem z144_24 {st : List Value} {w : pm_H} {b0 b1 b2 b3 b5 : Option Value} {x0 : Int32} : pm_ev 144 24 [b0, b1, b2, b3, some (.int x0), b5] st w = pm_ev 144 26 [b0, b1, b2, b3, some (.int x0), b5] (.int x0 :: st) w := pm_ny pt_144 d144_24 rfl rfl rfl
theorem d144_26 : decode cX6_reckons 26 = .ok (.aload_n 0, 1) := by decide +kernel
theorem z144_26 {st : List Value} {w : pm_H} {b1 b2 b3 b4 b5 : Option Value} {x0 : Nat} : pm_ev 144 26 [some (.ref x0), b1, b2, b3, b4, b5] st w = pm_ev 144 27 [some (.ref x0), b1, b2, b3, b4, b5] (.ref x0 :: st) w := pm_ny pt_144 d144_26 rfl rfl rfl
theorem d144_27 : decode cX6_reckons 27 = .ok (.iload 4, 2) := by decide +kernel
theorem z144_27 {st : List Value} {w : pm_H} {b0 b1 b2 b3 b5 : Option Value} {x0 : Int32} : pm_ev 144 27 [b0, b1, b2, b3, some (.int x0), b5] st w = pm_ev 144 29 [b0, b1, b2, b3, some (.int x0), b5] (.int x0 :: st) w := pm_ny pt_144 d144_27 rfl rfl rfl
theorem d144_29 : decode cX6_reckons 29 = .ok (.iload_n 1, 1) := by decide +kernel
theorem z144_29 {st : List Value} {w : pm_H} {b0 b2 b3 b4 b5 : Option Value} {x0 : Int32} : pm_ev 144 29 [b0, some (.int x0), b2, b3, b4, b5] st w = pm_ev 144 30 [b0, some (.int x0), b2, b3, b4, b5] (.int x0 :: st) w := pm_ny pt_144 d144_29 rfl rfl rfl
theorem d144_30 : decode cX6_reckons 30 = .ok (.iload_n 2, 1) := by decide +kernel
theorem z144_30 {st : List Value} {w : pm_H} {b0 b1 b3 b4 b5 : Option Value} {x0 : Int32} : pm_ev 144 30 [b0, b1, some (.int x0), b3, b4, b5] st w = pm_ev 144 31 [b0, b1, some (.int x0), b3, b4, b5] (.int x0 :: st) w := pm_ny pt_144 d144_30 rfl rfl rfl
theorem d144_31 : decode cX6_reckons 31 = .ok (.invokevirtual 227, 3) := by decide +kernel
theorem z144_31 {w : pm_H} {b0 b1 b2 b3 b4 b5 : Option Value} {x0 : Int32} {x1 : Int32} {x2 : Int32} {x3 : Nat} {x4 : Int32} {x5 : Nat} : pm_ev 144 31 [b0, b1, b2, b3, b4, b5] [.int x0, .int x1, .int x2, .ref x3, .int x4, .ref x5] w = pm_k 144 34 [b0, b1, b2, b3, b4, b5] [.int x4, .ref x5] (pm_vc (w x3) 6 (pm_call 138 [.ref x3, .int x2, .int x1, .int x0] w)) := pm_nv pt_144 pt_138 pt_M_6_227 d144_31 ⟨rfl, rfl⟩ ⟨⟨rfl, Nat.le_of_ble_eq_true rfl, Nat.le_of_ble_eq_true rfl, Nat.le_of_ble_eq_true rfl, Nat.le_of_ble_eq_true rfl⟩, rfl⟩
theorem d144_34 : decode cX6_reckons 34 = .ok (.lastore, 1) := by decide +kernel
theorem z144_34 {st : List Value} {w : pm_H} {pl : pm_L} {x0 : Nat} {x1 : Int32} {x2 : Int64} : pm_ev 144 34 pl (.long x2 :: .int x1 :: .ref x0 :: st) w = pm_kw 144 35 pl st (pm_ls w x0 (w x0) x1 x2) := pm_nls pt_144 d144_34
theorem d144_35 : decode cX6_reckons 35 = .ok (.aload_n 0, 1) := by decide +kernel
theorem z144_35 {st : List Value} {w : pm_H} {b1 b2 b3 b4 b5 : Option Value} {x0 : Nat} : pm_ev 144 35 [some (.ref x0), b1, b2, b3, b4, b5] st w = pm_ev 144 36 [some (.ref x0), b1, b2, b3, b4, b5] (.ref x0 :: st) w := pm_ny pt_144 d144_35 rfl rfl rfl
theorem d144_36 : decode cX6_reckons 36 = .ok (.getfield 97, 3) := by decide +kernel
theorem z144_36 {st : List Value} {w : pm_H} {pl : pm_L} {x0 : Nat} : pm_ev 144 36 pl (.ref x0 :: st) w = pm_kv 144 39 pl st w (pm_gf (w x0) 6 16) := pm_ng pt_144 pt_F_6_97 d144_36
theorem d144_39 : decode cX6_reckons 39 = .ok (.iload 4, 2) := by decide +kernel
theorem z144_39 {st : List Value} {w : pm_H} {b0 b1 b2 b3 b5 : Option Value} {x0 : Int32} : pm_ev 144 39 [b0, b1, b2, b3, some (.int x0), b5] st w = pm_ev 144 41 [b0, b1, b2, b3, some (.int x0), b5] (.int x0 :: st) w := pm_ny pt_144 d144_39 rfl rfl rfl
theorem d144_41 : decode cX6_reckons 41 = .ok (.aload_n 0, 1) := by decide +kernel
theorem z144_41 {st : List Value} {w : pm_H} {b1 b2 b3 b4 b5 : Option Value} {x0 : Nat} : pm_ev 144 41 [some (.ref x0), b1, b2, b3, b4, b5] st w = pm_ev 144 42 [some (.ref x0), b1, b2, b3, b4, b5] (.ref x0 :: st) w := pm_ny pt_144 d144_41 rfl rfl rfl
theorem d144_42 : decode cX6_reckons 42 = .ok (.iload 4, 2) := by decide +kernel
theorem z144_42 {st : List Value} {w : pm_H} {b0 b1 b2 b3 b5 : Option Value} {x0 : Int32} : pm_ev 144 42 [b0, b1, b2, b3, some (.int x0), b5] st w = pm_ev 144 44 [b0, b1, b2, b3, some (.int x0), b5] (.int x0 :: st) w := pm_ny pt_144 d144_42 rfl rfl rfl
theorem d144_44 : decode cX6_reckons 44 = .ok (.iload_n 1, 1) := by decide +kernel
theorem z144_44 {st : List Value} {w : pm_H} {b0 b2 b3 b4 b5 : Option Value} {x0 : Int32} : pm_ev 144 44 [b0, some (.int x0), b2, b3, b4, b5] st w = pm_ev 144 45 [b0, some (.int x0), b2, b3, b4, b5] (.int x0 :: st) w := pm_ny pt_144 d144_44 rfl rfl rfl
theorem d144_45 : decode cX6_reckons 45 = .ok (.iload_n 2, 1) := by decide +kernel
theorem z144_45 {st : List Value} {w : pm_H} {b0 b1 b3 b4 b5 : Option Value} {x0 : Int32} : pm_ev 144 45 [b0, b1, some (.int x0), b3, b4, b5] st w = pm_ev 144 46 [b0, b1, some (.int x0), b3, b4, b5] (.int x0 :: st) w := pm_ny pt_144 d144_45 rfl rfl rfl
theorem d144_46 : decode cX6_reckons 46 = .ok (.invokevirtual 224, 3) := by decide +kernel
theorem z144_46 {w : pm_H} {b0 b1 b2 b3 b4 b5 : Option Value} {x0 : Int32} {x1 : Int32} {x2 : Int32} {x3 : Nat} {x4 : Int32} {x5 : Nat} : pm_ev 144 46 [b0, b1, b2, b3, b4, b5] [.int x0, .int x1, .int x2, .ref x3, .int x4, .ref x5] w = pm_k 144 49 [b0, b1, b2, b3, b4, b5] [.int x4, .ref x5] (pm_vc (w x3) 6 (pm_call 136 [.ref x3, .int x2, .int x1, .int x0] w)) := pm_nv pt_144 pt_136 pt_M_6_224 d144_46 ⟨rfl, rfl⟩ ⟨⟨rfl, Nat.le_of_ble_eq_true rfl, Nat.le_of_ble_eq_true rfl, Nat.le_of_ble_eq_true rfl, Nat.le_of_ble_eq_true rfl⟩, rfl⟩
theorem d144_49 : decode cX6_reckons 49 = .ok (.lastore, 1) := by decide +kernel
theorem z144_49 {st : List Value} {w : pm_H} {pl : pm_L} {x0 : Nat} {x1 : Int32} {x2 : Int64} : pm_ev 144 49 pl (.long x2 :: .int x1 :: .ref x0 :: st) w = pm_kw 144 50 pl st (pm_ls w x0 (w x0) x1 x2) := pm_nls pt_144 d144_49
theorem d144_50 : decode cX6_reckons 50 = .ok (.iload 4, 2) := by decide +kernel
theorem z144_50 {st : List Value} {w : pm_H} {b0 b1 b2 b3 b5 : Option Value} {x0 : Int32} : pm_ev 144 50 [b0, b1, b2, b3, some (.int x0), b5] st w = pm_ev 144 52 [b0, b1, b2, b3, some (.int x0), b5] (.int x0 :: st) w := pm_ny pt_144 d144_50 rfl rfl rfl
theorem d144_52 : decode cX6_reckons 52 = .ok (.iload_n 3, 1) := by decide +kernel
theorem z144_52 {st : List Value} {w : pm_H} {b0 b1 b2 b4 b5 : Option Value} {x0 : Int32} : pm_ev 144 52 [b0, b1, b2, some (.int x0), b4, b5] st w = pm_ev 144 53 [b0, b1, b2, some (.int x0), b4, b5] (.int x0 :: st) w := pm_ny pt_144 d144_52 rfl rfl rfl
theorem d144_53 : decode cX6_reckons 53 = .ok (.if_icmp .eq 88, 3) := by decide +kernel
theorem z144_53 {st : List Value} {w : pm_H} {pl : pm_L} {x0 x1 : Int32} : pm_ev 144 53 pl (.int x1 :: .int x0 :: st) w = if x0 = x1 then pm_ev 144 141 pl st w else pm_ev 144 56 pl st w := pm_nif pt_144 d144_53 rfl rfl rfl
theorem d144_56 : decode cX6_reckons 56 = .ok (.aload_n 0, 1) := by decide +kernel
theorem z144_56 {st : List Value} {w : pm_H} {b1 b2 b3 b4 b5 : Option Value} {x0 : Nat} : pm_ev 144 56 [some (.ref x0), b1, b2, b3, b4, b5] st w = pm_ev 144 57 [some (.ref x0), b1, b2, b3, b4, b5] (.ref x0 :: st) w := pm_ny pt_144 d144_56 rfl rfl rfl
theorem d144_57 : decode cX6_reckons 57 = .ok (.getfield 93, 3) := by decide +kernel
theorem z144_57 {st : List Value} {w : pm_H} {pl : pm_L} {x0 : Nat} : pm_ev 144 57 pl (.ref x0 :: st) w = pm_kv 144 60 pl st w (pm_gf (w x0) 6 15) := pm_ng pt_144 pt_F_6_93 d144_57
theorem d144_60 : decode cX6_reckons 60 = .ok (.iload 4, 2) := by decide +kernel
theorem z144_60 {st : List Value} {w : pm_H} {b0 b1 b2 b3 b5 : Option Value} {x0 : Int32} : pm_ev 144 60 [b0, b1, b2, b3, some (.int x0), b5] st w = pm_ev 144 62 [b0, b1, b2, b3, some (.int x0), b5] (.int x0 :: st) w := pm_ny pt_144 d144_60 rfl rfl rfl
theorem d144_62 : decode cX6_reckons 62 = .ok (.laload, 1) := by decide +kernel
theorem z144_62 {st : List Value} {w : pm_H} {pl : pm_L} {x0 : Nat} {x1 : Int32} : pm_ev 144 62 pl (.int x1 :: .ref x0 :: st) w = pm_kv 144 63 pl st w (pm_la (w x0) x1) := pm_nla pt_144 d144_62
theorem d144_63 : decode cX6_reckons 63 = .ok (.lconst 0, 1) := by decide +kernel
theorem z144_63 {st : List Value} {w : pm_H} {pl : pm_L} : pm_ev 144 63 pl st w = pm_ev 144 64 pl (.long 0 :: st) w := pm_ny pt_144 d144_63 rfl rfl rfl
theorem d144_64 : decode cX6_reckons 64 = .ok (.lcmp, 1) := by decide +kernel
theorem z144_64 {st : List Value} {w : pm_H} {pl : pm_L} {x0 x1 : Int64} : pm_ev 144 64 pl (.long x1 :: .long x0 :: st) w = pm_ev 144 65 pl (.int (lg_cmp x0 x1) :: st) w := pm_ny pt_144 d144_64 rfl rfl rfl
theorem d144_65 : decode cX6_reckons 65 = .ok (.ifCond .ne 6, 3) := by decide +kernel
theorem z144_65 {st : List Value} {w : pm_H} {pl : pm_L} {x0 : Int32} : pm_ev 144 65 pl (.int x0 :: st) w = if x0 = 0 then pm_ev 144 68 pl st w else pm_ev 144 71 pl st w := pm_nin (c := ¬ x0 = 0) pt_144 d144_65 rfl rfl rfl Iff.rfl
theorem d144_68 : decode cX6_reckons 68 = .ok (.goto 73, 3) := by decide +kernel
theorem z144_68 {st : List Value} {w : pm_H} {pl : pm_L} : pm_ev 144 68 pl st w = pm_ev 144 141 pl st w := pm_ny pt_144 d144_68 rfl rfl rfl
theorem d144_71 : decode cX6_reckons 71 = .ok (.aload_n 0, 1) := by decide +kernel
theorem z144_71 {st : List Value} {w : pm_H} {b1 b2 b3 b4 b5 : Option Value} {x0 : Nat} : pm_ev 144 71 [some (.ref x0), b1, b2, b3, b4, b5] st w = pm_ev 144 72 [some (.ref x0), b1, b2, b3, b4, b5] (.ref x0 :: st) w := pm_ny pt_144 d144_71 rfl rfl rfl
theorem d144_72 : decode cX6_reckons 72 = .ok (.getfield 230, 3) := by decide +kernel
theorem z144_72 {st : List Value} {w : pm_H} {pl : pm_L} {x0 : Nat} : pm_ev 144 72 pl (.ref x0 :: st) w = pm_kv 144 75 pl st w (pm_gf (w x0) 6 18) := pm_ng pt_144 pt_F_6_230 d144_72
theorem d144_75 : decode cX6_reckons 75 = .ok (.istore 5, 2) := by decide +kernel
theorem z144_75 {st : List Value} {w : pm_H} {b0 b1 b2 b3 b5 : Option Value} {x0 : Int32} {x9 : Int32} : pm_ev 144 75 [b0, b1, b2, b3, some (.int x9), b5] (.int x0 :: st) w = pm_ev 144 77 [b0, b1, b2, b3, some (.int x9), some (.int x0)] st w := pm_ny pt_144 d144_75 rfl rfl rfl
theorem d144_77 : decode cX6_reckons 77 = .ok (.iload 5, 2) := by decide +kernel
theorem z144_77 {st : List Value} {w : pm_H} {b0 b1 b2 b3 b4 : Option Value} {x0 : Int32} : pm_ev 144 77 [b0, b1, b2, b3, b4, some (.int x0)] st w = pm_ev 144 79 [b0, b1, b2, b3, b4, some (.int x0)] (.int x0 :: st) w := pm_ny pt_144 d144_77 rfl rfl rfl
theorem d144_79 : decode cX6_reckons 79 = .ok (.ifCond .le 43, 3) := by decide +kernel
theorem z144_79 {st : List Value} {w : pm_H} {pl : pm_L} {x0 : Int32} : pm_ev 144 79 pl (.int x0 :: st) w = if 0 < x0 then pm_ev 144 82 pl st w else pm_ev 144 122 pl st w := pm_nin (c := x0 ≤ 0) pt_144 d144_79 rfl rfl rfl pm_ge
theorem d144_82 : decode cX6_reckons 82 = .ok (.aload_n 0, 1) := by decide +kernel
theorem z144_82 {st : List Value} {w : pm_H} {b1 b2 b3 b4 b5 : Option Value} {x0 : Nat} : pm_ev 144 82 [some (.ref x0), b1, b2, b3, b4, b5] st w = pm_ev 144 83 [some (.ref x0), b1, b2, b3, b4, b5] (.ref x0 :: st) w := pm_ny pt_144 d144_82 rfl rfl rfl
theorem d144_83 : decode cX6_reckons 83 = .ok (.iload 4, 2) := by decide +kernel
theorem z144_83 {st : List Value} {w : pm_H} {b0 b1 b2 b3 b5 : Option Value} {x0 : Int32} : pm_ev 144 83 [b0, b1, b2, b3, some (.int x0), b5] st w = pm_ev 144 85 [b0, b1, b2, b3, some (.int x0), b5] (.int x0 :: st) w := pm_ny pt_144 d144_83 rfl rfl rfl
theorem d144_85 : decode cX6_reckons 85 = .ok (.aload_n 0, 1) := by decide +kernel
theorem z144_85 {st : List Value} {w : pm_H} {b1 b2 b3 b4 b5 : Option Value} {x0 : Nat} : pm_ev 144 85 [some (.ref x0), b1, b2, b3, b4, b5] st w = pm_ev 144 86 [some (.ref x0), b1, b2, b3, b4, b5] (.ref x0 :: st) w := pm_ny pt_144 d144_85 rfl rfl rfl
theorem d144_86 : decode cX6_reckons 86 = .ok (.getfield 100, 3) := by decide +kernel
theorem z144_86 {st : List Value} {w : pm_H} {pl : pm_L} {x0 : Nat} : pm_ev 144 86 pl (.ref x0 :: st) w = pm_kv 144 89 pl st w (pm_gf (w x0) 6 17) := pm_ng pt_144 pt_F_6_100 d144_86
theorem d144_89 : decode cX6_reckons 89 = .ok (.iload 5, 2) := by decide +kernel
theorem z144_89 {st : List Value} {w : pm_H} {b0 b1 b2 b3 b4 : Option Value} {x0 : Int32} : pm_ev 144 89 [b0, b1, b2, b3, b4, some (.int x0)] st w = pm_ev 144 91 [b0, b1, b2, b3, b4, some (.int x0)] (.int x0 :: st) w := pm_ny pt_144 d144_89 rfl rfl rfl
theorem d144_91 : decode cX6_reckons 91 = .ok (.iconst 1, 1) := by decide +kernel
theorem z144_91 {st : List Value} {w : pm_H} {pl : pm_L} : pm_ev 144 91 pl st w = pm_ev 144 92 pl (.int 1 :: st) w := pm_ny pt_144 d144_91 rfl rfl rfl
theorem d144_92 : decode cX6_reckons 92 = .ok (.isub, 1) := by decide +kernel
theorem z144_92 {st : List Value} {w : pm_H} {pl : pm_L} {x0 x1 : Int32} : pm_ev 144 92 pl (.int x1 :: .int x0 :: st) w = pm_ev 144 93 pl (.int (x0 - x1) :: st) w := pm_ny pt_144 d144_92 rfl rfl rfl
theorem d144_93 : decode cX6_reckons 93 = .ok (.iaload, 1) := by decide +kernel
theorem z144_93 {st : List Value} {w : pm_H} {pl : pm_L} {x0 : Nat} {x1 : Int32} : pm_ev 144 93 pl (.int x1 :: .ref x0 :: st) w = pm_kv 144 94 pl st w (pm_ia (w x0) 0 x1) := pm_nia pt_144 d144_93
theorem d144_94 : decode cX6_reckons 94 = .ok (.invokevirtual 233, 3) := by decide +kernel
theorem z144_94 {w : pm_H} {b0 b1 b2 b3 b4 b5 : Option Value} {x0 : Int32} {x1 : Int32} {x2 : Nat} : pm_ev 144 94 [b0, b1, b2, b3, b4, b5] [.int x0, .int x1, .ref x2] w = pm_k 144 97 [b0, b1, b2, b3, b4, b5] [] (pm_vc (w x2) 6 (pm_call 145 [.ref x2, .int x1, .int x0] w)) := pm_nv pt_144 pt_145 pt_M_6_233 d144_94 ⟨rfl, rfl⟩ ⟨⟨rfl, Nat.le_of_ble_eq_true rfl, Nat.le_of_ble_eq_true rfl, Nat.le_of_ble_eq_true rfl, Nat.le_of_ble_eq_true rfl⟩, rfl⟩
theorem d144_97 : decode cX6_reckons 97 = .ok (.ifCond .eq 25, 3) := by decide +kernel
theorem z144_97 {st : List Value} {w : pm_H} {pl : pm_L} {x0 : Int32} : pm_ev 144 97 pl (.int x0 :: st) w = if x0 = 0 then pm_ev 144 122 pl st w else pm_ev 144 100 pl st w := pm_nif pt_144 d144_97 rfl rfl rfl
theorem d144_100 : decode cX6_reckons 100 = .ok (.aload_n 0, 1) := by decide +kernel
theorem z144_100 {st : List Value} {w : pm_H} {b1 b2 b3 b4 b5 : Option Value} {x0 : Nat} : pm_ev 144 100 [some (.ref x0), b1, b2, b3, b4, b5] st w = pm_ev 144 101 [some (.ref x0), b1, b2, b3, b4, b5] (.ref x0 :: st) w := pm_ny pt_144 d144_100 rfl rfl rfl
theorem d144_101 : decode cX6_reckons 101 = .ok (.getfield 100, 3) := by decide +kernel
theorem z144_101 {st : List Value} {w : pm_H} {pl : pm_L} {x0 : Nat} : pm_ev 144 101 pl (.ref x0 :: st) w = pm_kv 144 104 pl st w (pm_gf (w x0) 6 17) := pm_ng pt_144 pt_F_6_100 d144_101
theorem d144_104 : decode cX6_reckons 104 = .ok (.iload 5, 2) := by decide +kernel
theorem z144_104 {st : List Value} {w : pm_H} {b0 b1 b2 b3 b4 : Option Value} {x0 : Int32} : pm_ev 144 104 [b0, b1, b2, b3, b4, some (.int x0)] st w = pm_ev 144 106 [b0, b1, b2, b3, b4, some (.int x0)] (.int x0 :: st) w := pm_ny pt_144 d144_104 rfl rfl rfl
theorem d144_106 : decode cX6_reckons 106 = .ok (.aload_n 0, 1) := by decide +kernel
theorem z144_106 {st : List Value} {w : pm_H} {b1 b2 b3 b4 b5 : Option Value} {x0 : Nat} : pm_ev 144 106 [some (.ref x0), b1, b2, b3, b4, b5] st w = pm_ev 144 107 [some (.ref x0), b1, b2, b3, b4, b5] (.ref x0 :: st) w := pm_ny pt_144 d144_106 rfl rfl rfl
theorem d144_107 : decode cX6_reckons 107 = .ok (.getfield 100, 3) := by decide +kernel
theorem z144_107 {st : List Value} {w : pm_H} {pl : pm_L} {x0 : Nat} : pm_ev 144 107 pl (.ref x0 :: st) w = pm_kv 144 110 pl st w (pm_gf (w x0) 6 17) := pm_ng pt_144 pt_F_6_100 d144_107
theorem d144_110 : decode cX6_reckons 110 = .ok (.iload 5, 2) := by decide +kernel
theorem z144_110 {st : List Value} {w : pm_H} {b0 b1 b2 b3 b4 : Option Value} {x0 : Int32} : pm_ev 144 110 [b0, b1, b2, b3, b4, some (.int x0)] st w = pm_ev 144 112 [b0, b1, b2, b3, b4, some (.int x0)] (.int x0 :: st) w := pm_ny pt_144 d144_110 rfl rfl rfl
theorem d144_112 : decode cX6_reckons 112 = .ok (.iconst 1, 1) := by decide +kernel
theorem z144_112 {st : List Value} {w : pm_H} {pl : pm_L} : pm_ev 144 112 pl st w = pm_ev 144 113 pl (.int 1 :: st) w := pm_ny pt_144 d144_112 rfl rfl rfl
theorem d144_113 : decode cX6_reckons 113 = .ok (.isub, 1) := by decide +kernel
theorem z144_113 {st : List Value} {w : pm_H} {pl : pm_L} {x0 x1 : Int32} : pm_ev 144 113 pl (.int x1 :: .int x0 :: st) w = pm_ev 144 114 pl (.int (x0 - x1) :: st) w := pm_ny pt_144 d144_113 rfl rfl rfl
theorem d144_114 : decode cX6_reckons 114 = .ok (.iaload, 1) := by decide +kernel
theorem z144_114 {st : List Value} {w : pm_H} {pl : pm_L} {x0 : Nat} {x1 : Int32} : pm_ev 144 114 pl (.int x1 :: .ref x0 :: st) w = pm_kv 144 115 pl st w (pm_ia (w x0) 0 x1) := pm_nia pt_144 d144_114
theorem d144_115 : decode cX6_reckons 115 = .ok (.iastore, 1) := by decide +kernel
theorem z144_115 {st : List Value} {w : pm_H} {pl : pm_L} {x0 : Nat} {x1 : Int32} {x2 : Int32} : pm_ev 144 115 pl (.int x2 :: .int x1 :: .ref x0 :: st) w = pm_kw 144 116 pl st (pm_is w x0 (w x0) x1 x2) := pm_nis pt_144 d144_115
theorem d144_116 : decode cX6_reckons 116 = .ok (.iinc 5 (-1), 3) := by decide +kernel
theorem z144_116 {st : List Value} {w : pm_H} {b0 b1 b2 b3 : Option Value} {x0 : Int32} {x9 : Int32} : pm_ev 144 116 [b0, b1, b2, b3, some (.int x9), some (.int x0)] st w = pm_ev 144 119 [b0, b1, b2, b3, some (.int x9), some (.int (x0 + (-1)))] st w := pm_ny pt_144 d144_116 rfl rfl rfl
theorem d144_119 : decode cX6_reckons 119 = .ok (.goto (-42), 3) := by decide +kernel
theorem z144_119 {st : List Value} {w : pm_H} {pl : pm_L} : pm_ev 144 119 pl st w = pm_ev 144 77 pl st w := pm_ny pt_144 d144_119 rfl rfl rfl
theorem d144_122 : decode cX6_reckons 122 = .ok (.aload_n 0, 1) := by decide +kernel
theorem z144_122 {st : List Value} {w : pm_H} {b1 b2 b3 b4 b5 : Option Value} {x0 : Nat} : pm_ev 144 122 [some (.ref x0), b1, b2, b3, b4, b5] st w = pm_ev 144 123 [some (.ref x0), b1, b2, b3, b4, b5] (.ref x0 :: st) w := pm_ny pt_144 d144_122 rfl rfl rfl
theorem d144_123 : decode cX6_reckons 123 = .ok (.getfield 100, 3) := by decide +kernel
theorem z144_123 {st : List Value} {w : pm_H} {pl : pm_L} {x0 : Nat} : pm_ev 144 123 pl (.ref x0 :: st) w = pm_kv 144 126 pl st w (pm_gf (w x0) 6 17) := pm_ng pt_144 pt_F_6_100 d144_123
theorem d144_126 : decode cX6_reckons 126 = .ok (.iload 5, 2) := by decide +kernel
theorem z144_126 {st : List Value} {w : pm_H} {b0 b1 b2 b3 b4 : Option Value} {x0 : Int32} : pm_ev 144 126 [b0, b1, b2, b3, b4, some (.int x0)] st w = pm_ev 144 128 [b0, b1, b2, b3, b4, some (.int x0)] (.int x0 :: st) w := pm_ny pt_144 d144_126 rfl rfl rfl
theorem d144_128 : decode cX6_reckons 128 = .ok (.iload 4, 2) := by decide +kernel
theorem z144_128 {st : List Value} {w : pm_H} {b0 b1 b2 b3 b5 : Option Value} {x0 : Int32} : pm_ev 144 128 [b0, b1, b2, b3, some (.int x0), b5] st w = pm_ev 144 130 [b0, b1, b2, b3, some (.int x0), b5] (.int x0 :: st) w := pm_ny pt_144 d144_128 rfl rfl rfl
theorem d144_130 : decode cX6_reckons 130 = .ok (.iastore, 1) := by decide +kernel
theorem z144_130 {st : List Value} {w : pm_H} {pl : pm_L} {x0 : Nat} {x1 : Int32} {x2 : Int32} : pm_ev 144 130 pl (.int x2 :: .int x1 :: .ref x0 :: st) w = pm_kw 144 131 pl st (pm_is w x0 (w x0) x1 x2) := pm_nis pt_144 d144_130
theorem d144_131 : decode cX6_reckons 131 = .ok (.aload_n 0, 1) := by decide +kernel
theorem z144_131 {st : List Value} {w : pm_H} {b1 b2 b3 b4 b5 : Option Value} {x0 : Nat} : pm_ev 144 131 [some (.ref x0), b1, b2, b3, b4, b5] st w = pm_ev 144 132 [some (.ref x0), b1, b2, b3, b4, b5] (.ref x0 :: st) w := pm_ny pt_144 d144_131 rfl rfl rfl
theorem d144_132 : decode cX6_reckons 132 = .ok (.dup, 1) := by decide +kernel
theorem z144_132 {st : List Value} {w : pm_H} {pl : pm_L} {x0 : Nat} : pm_ev 144 132 pl (.ref x0 :: st) w = pm_ev 144 133 pl (.ref x0 :: .ref x0 :: st) w := pm_ny pt_144 d144_132 rfl rfl rfl
theorem d144_133 : decode cX6_reckons 133 = .ok (.getfield 230, 3) := by decide +kernel
theorem z144_133 {st : List Value} {w : pm_H} {pl : pm_L} {x0 : Nat} : pm_ev 144 133 pl (.ref x0 :: st) w = pm_kv 144 136 pl st w (pm_gf (w x0) 6 18) := pm_ng pt_144 pt_F_6_230 d144_133
theorem d144_136 : decode cX6_reckons 136 = .ok (.iconst 1, 1) := by decide +kernel
theorem z144_136 {st : List Value} {w : pm_H} {pl : pm_L} : pm_ev 144 136 pl st w = pm_ev 144 137 pl (.int 1 :: st) w := pm_ny pt_144 d144_136 rfl rfl rfl
theorem d144_137 : decode cX6_reckons 137 = .ok (.iadd, 1) := by decide +kernel
theorem z144_137 {st : List Value} {w : pm_H} {pl : pm_L} {x0 x1 : Int32} : pm_ev 144 137 pl (.int x1 :: .int x0 :: st) w = pm_ev 144 138 pl (.int (x0 + x1) :: st) w := pm_ny pt_144 d144_137 rfl rfl rfl
theorem d144_138 : decode cX6_reckons 138 = .ok (.putfield 230, 3) := by decide +kernel
theorem z144_138 {st : List Value} {w : pm_H} {pl : pm_L} {x0 : Nat} {x1 : Int32} : pm_ev 144 138 pl (.int x1 :: .ref x0 :: st) w = pm_kw 144 141 pl st (pm_pf w x0 (w x0) 6 18 0 (.int x1)) := pm_np pt_144 pt_F_6_230 d144_138
theorem d144_141 : decode cX6_reckons 141 = .ok (.iinc 4 1, 3) := by decide +kernel
theorem z144_141 {st : List Value} {w : pm_H} {b0 b1 b2 b5 : Option Value} {x0 : Int32} {x9 : Int32} : pm_ev 144 141 [b0, b1, b2, some (.int x9), some (.int x0), b5] st w = pm_ev 144 144 [b0, b1, b2, some (.int x9), some (.int (x0 + 1)), b5] st w := pm_ny pt_144 d144_141 rfl rfl rfl
theorem d144_144 : decode cX6_reckons 144 = .ok (.goto (-136), 3) := by decide +kernel
theorem z144_144 {st : List Value} {w : pm_H} {pl : pm_L} : pm_ev 144 144 pl st w = pm_ev 144 8 pl st w := pm_ny pt_144 d144_144 rfl rfl rfl
theorem d144_147 : decode cX6_reckons 147 = .ok (.aload_n 0, 1) := by decide +kernel
theorem z144_147 {st : List Value} {w : pm_H} {b1 b2 b3 b4 b5 : Option Value} {x0 : Nat} : pm_ev 144 147 [some (.ref x0), b1, b2, b3, b4, b5] st w = pm_ev 144 148 [some (.ref x0), b1, b2, b3, b4, b5] (.ref x0 :: st) w := pm_ny pt_144 d144_147 rfl rfl rfl
theorem d144_148 : decode cX6_reckons 148 = .ok (.aload_n 0, 1) := by decide +kernel
theorem z144_148 {st : List Value} {w : pm_H} {b1 b2 b3 b4 b5 : Option Value} {x0 : Nat} : pm_ev 144 148 [some (.ref x0), b1, b2, b3, b4, b5] st w = pm_ev 144 149 [some (.ref x0), b1, b2, b3, b4, b5] (.ref x0 :: st) w := pm_ny pt_144 d144_148 rfl rfl rfl
theorem d144_149 : decode cX6_reckons 149 = .ok (.iload_n 1, 1) := by decide +kernel
theorem z144_149 {st : List Value} {w : pm_H} {b0 b2 b3 b4 b5 : Option Value} {x0 : Int32} : pm_ev 144 149 [b0, some (.int x0), b2, b3, b4, b5] st w = pm_ev 144 150 [b0, some (.int x0), b2, b3, b4, b5] (.int x0 :: st) w := pm_ny pt_144 d144_149 rfl rfl rfl
theorem d144_150 : decode cX6_reckons 150 = .ok (.iload_n 2, 1) := by decide +kernel
theorem z144_150 {st : List Value} {w : pm_H} {b0 b1 b3 b4 b5 : Option Value} {x0 : Int32} : pm_ev 144 150 [b0, b1, some (.int x0), b3, b4, b5] st w = pm_ev 144 151 [b0, b1, some (.int x0), b3, b4, b5] (.int x0 :: st) w := pm_ny pt_144 d144_150 rfl rfl rfl
theorem d144_151 : decode cX6_reckons 151 = .ok (.invokevirtual 221, 3) := by decide +kernel
theorem z144_151 {w : pm_H} {b0 b1 b2 b3 b4 b5 : Option Value} {x0 : Int32} {x1 : Int32} {x2 : Nat} {x3 : Nat} : pm_ev 144 151 [b0, b1, b2, b3, b4, b5] [.int x0, .int x1, .ref x2, .ref x3] w = pm_k 144 154 [b0, b1, b2, b3, b4, b5] [.ref x3] (pm_vc (w x2) 6 (pm_call 134 [.ref x2, .int x1, .int x0] w)) := pm_nv pt_144 pt_134 pt_M_6_221 d144_151 ⟨rfl, rfl⟩ ⟨⟨rfl, Nat.le_of_ble_eq_true rfl, Nat.le_of_ble_eq_true rfl, Nat.le_of_ble_eq_true rfl, Nat.le_of_ble_eq_true rfl⟩, rfl⟩
theorem d144_154 : decode cX6_reckons 154 = .ok (.putfield 236, 3) := by decide +kernel
theorem z144_154 {st : List Value} {w : pm_H} {pl : pm_L} {x0 : Nat} {x1 : Int64} : pm_ev 144 154 pl (.long x1 :: .ref x0 :: st) w = pm_kw 144 157 pl st (pm_pf w x0 (w x0) 6 21 1 (.long x1)) := pm_np pt_144 pt_F_6_236 d144_154
theorem d144_157 : decode cX6_reckons 157 = .ok (.aload_n 0, 1) := by decide +kernel
theorem z144_157 {st : List Value} {w : pm_H} {b1 b2 b3 b4 b5 : Option Value} {x0 : Nat} : pm_ev 144 157 [some (.ref x0), b1, b2, b3, b4, b5] st w = pm_ev 144 158 [some (.ref x0), b1, b2, b3, b4, b5] (.ref x0 :: st) w := pm_ny pt_144 d144_157 rfl rfl rfl
theorem d144_158 : decode cX6_reckons 158 = .ok (.aload_n 0, 1) := by decide +kernel
theorem z144_158 {st : List Value} {w : pm_H} {b1 b2 b3 b4 b5 : Option Value} {x0 : Nat} : pm_ev 144 158 [some (.ref x0), b1, b2, b3, b4, b5] st w = pm_ev 144 159 [some (.ref x0), b1, b2, b3, b4, b5] (.ref x0 :: st) w := pm_ny pt_144 d144_158 rfl rfl rfl
theorem d144_159 : decode cX6_reckons 159 = .ok (.iload_n 1, 1) := by decide +kernel
theorem z144_159 {st : List Value} {w : pm_H} {b0 b2 b3 b4 b5 : Option Value} {x0 : Int32} : pm_ev 144 159 [b0, some (.int x0), b2, b3, b4, b5] st w = pm_ev 144 160 [b0, some (.int x0), b2, b3, b4, b5] (.int x0 :: st) w := pm_ny pt_144 d144_159 rfl rfl rfl
theorem d144_160 : decode cX6_reckons 160 = .ok (.iload_n 2, 1) := by decide +kernel
theorem z144_160 {st : List Value} {w : pm_H} {b0 b1 b3 b4 b5 : Option Value} {x0 : Int32} : pm_ev 144 160 [b0, b1, some (.int x0), b3, b4, b5] st w = pm_ev 144 161 [b0, b1, some (.int x0), b3, b4, b5] (.int x0 :: st) w := pm_ny pt_144 d144_160 rfl rfl rfl
theorem d144_161 : decode cX6_reckons 161 = .ok (.invokevirtual 212, 3) := by decide +kernel
theorem z144_161 {w : pm_H} {b0 b1 b2 b3 b4 b5 : Option Value} {x0 : Int32} {x1 : Int32} {x2 : Nat} {x3 : Nat} : pm_ev 144 161 [b0, b1, b2, b3, b4, b5] [.int x0, .int x1, .ref x2, .ref x3] w = pm_k 144 164 [b0, b1, b2, b3, b4, b5] [.ref x3] (pm_vc (w x2) 6 (pm_call 141 [.ref x2, .int x1, .int x0] w)) := pm_nv pt_144 pt_141 pt_M_6_212 d144_161 ⟨rfl, rfl⟩ ⟨⟨rfl, Nat.le_of_ble_eq_true rfl, Nat.le_of_ble_eq_true rfl, Nat.le_of_ble_eq_true rfl, Nat.le_of_ble_eq_true rfl⟩, rfl⟩
theorem d144_164 : decode cX6_reckons 164 = .ok (.i2l, 1) := by decide +kernel
theorem z144_164 {st : List Value} {w : pm_H} {pl : pm_L} {x0 : Int32} : pm_ev 144 164 pl (.int x0 :: st) w = pm_ev 144 165 pl (.long x0.toInt64 :: st) w := pm_ny pt_144 d144_164 rfl rfl rfl
theorem d144_165 : decode cX6_reckons 165 = .ok (.putfield 239, 3) := by decide +kernel
theorem z144_165 {st : List Value} {w : pm_H} {pl : pm_L} {x0 : Nat} {x1 : Int64} : pm_ev 144 165 pl (.long x1 :: .ref x0 :: st) w = pm_kw 144 168 pl st (pm_pf w x0 (w x0) 6 22 1 (.long x1)) := pm_np pt_144 pt_F_6_239 d144_165
theorem d144_168 : decode cX6_reckons 168 = .ok (.aload_n 0, 1) := by decide +kernel
theorem z144_168 {st : List Value} {w : pm_H} {b1 b2 b3 b4 b5 : Option Value} {x0 : Nat} : pm_ev 144 168 [some (.ref x0), b1, b2, b3, b4, b5] st w = pm_ev 144 169 [some (.ref x0), b1, b2, b3, b4, b5] (.ref x0 :: st) w := pm_ny pt_144 d144_168 rfl rfl rfl
theorem d144_169 : decode cX6_reckons 169 = .ok (.iconst 0, 1) := by decide +kernel
theorem z144_169 {st : List Value} {w : pm_H} {pl : pm_L} : pm_ev 144 169 pl st w = pm_ev 144 170 pl (.int 0 :: st) w := pm_ny pt_144 d144_169 rfl rfl rfl
theorem d144_170 : decode cX6_reckons 170 = .ok (.putfield 242, 3) := by decide +kernel
theorem z144_170 {st : List Value} {w : pm_H} {pl : pm_L} {x0 : Nat} {x1 : Int32} : pm_ev 144 170 pl (.int x1 :: .ref x0 :: st) w = pm_kw 144 173 pl st (pm_pf w x0 (w x0) 6 19 0 (.int x1)) := pm_np pt_144 pt_F_6_242 d144_170
theorem d144_173 : decode cX6_reckons 173 = .ok (.aload_n 0, 1) := by decide +kernel
theorem z144_173 {st : List Value} {w : pm_H} {b1 b2 b3 b4 b5 : Option Value} {x0 : Nat} : pm_ev 144 173 [some (.ref x0), b1, b2, b3, b4, b5] st w = pm_ev 144 174 [some (.ref x0), b1, b2, b3, b4, b5] (.ref x0 :: st) w := pm_ny pt_144 d144_173 rfl rfl rfl
theorem d144_174 : decode cX6_reckons 174 = .ok (.iconst (-1), 1) := by decide +kernel
theorem z144_174 {st : List Value} {w : pm_H} {pl : pm_L} : pm_ev 144 174 pl st w = pm_ev 144 175 pl (.int (-1) :: st) w := pm_ny pt_144 d144_174 rfl rfl rfl
theorem d144_175 : decode cX6_reckons 175 = .ok (.putfield 245, 3) := by decide +kernel
theorem z144_175 {st : List Value} {w : pm_H} {pl : pm_L} {x0 : Nat} {x1 : Int32} : pm_ev 144 175 pl (.int x1 :: .ref x0 :: st) w = pm_kw 144 178 pl st (pm_pf w x0 (w x0) 6 20 0 (.int x1)) := pm_np pt_144 pt_F_6_245 d144_175
theorem d144_178 : decode cX6_reckons 178 = .ok (.iconst 0, 1) := by decide +kernel
theorem z144_178 {st : List Value} {w : pm_H} {pl : pm_L} : pm_ev 144 178 pl st w = pm_ev 144 179 pl (.int 0 :: st) w := pm_ny pt_144 d144_178 rfl rfl rfl
theorem d144_179 : decode cX6_reckons 179 = .ok (.istore 4, 2) := by decide +kernel
theorem z144_179 {st : List Value} {w : pm_H} {b0 b1 b2 b4 b5 : Option Value} {x0 : Int32} {x9 : Int32} : pm_ev 144 179 [b0, b1, b2, some (.int x9), b4, b5] (.int x0 :: st) w = pm_ev 144 181 [b0, b1, b2, some (.int x9), some (.int x0), b5] st w := pm_ny pt_144 d144_179 rfl rfl rfl
theorem d144_181 : decode cX6_reckons 181 = .ok (.iload 4, 2) := by decide +kernel
theorem z144_181 {st : List Value} {w : pm_H} {b0 b1 b2 b3 b5 : Option Value} {x0 : Int32} : pm_ev 144 181 [b0, b1, b2, b3, some (.int x0), b5] st w = pm_ev 144 183 [b0, b1, b2, b3, some (.int x0), b5] (.int x0 :: st) w := pm_ny pt_144 d144_181 rfl rfl rfl
theorem d144_183 : decode cX6_reckons 183 = .ok (.aload_n 0, 1) := by decide +kernel
theorem z144_183 {st : List Value} {w : pm_H} {b1 b2 b3 b4 b5 : Option Value} {x0 : Nat} : pm_ev 144 183 [some (.ref x0), b1, b2, b3, b4, b5] st w = pm_ev 144 184 [some (.ref x0), b1, b2, b3, b4, b5] (.ref x0 :: st) w := pm_ny pt_144 d144_183 rfl rfl rfl
theorem d144_184 : decode cX6_reckons 184 = .ok (.getfield 230, 3) := by decide +kernel
theorem z144_184 {st : List Value} {w : pm_H} {pl : pm_L} {x0 : Nat} : pm_ev 144 184 pl (.ref x0 :: st) w = pm_kv 144 187 pl st w (pm_gf (w x0) 6 18) := pm_ng pt_144 pt_F_6_230 d144_184
theorem d144_187 : decode cX6_reckons 187 = .ok (.if_icmp .ge 79, 3) := by decide +kernel
theorem z144_187 {st : List Value} {w : pm_H} {pl : pm_L} {x0 x1 : Int32} : pm_ev 144 187 pl (.int x1 :: .int x0 :: st) w = if x0 < x1 then pm_ev 144 190 pl st w else pm_ev 144 266 pl st w := pm_nin (c := x1 ≤ x0) pt_144 d144_187 rfl rfl rfl pm_ge
theorem d144_190 : decode cX6_reckons 190 = .ok (.aload_n 0, 1) := by decide +kernel
theorem z144_190 {st : List Value} {w : pm_H} {b1 b2 b3 b4 b5 : Option Value} {x0 : Nat} : pm_ev 144 190 [some (.ref x0), b1, b2, b3, b4, b5] st w = pm_ev 144 191 [some (.ref x0), b1, b2, b3, b4, b5] (.ref x0 :: st) w := pm_ny pt_144 d144_190 rfl rfl rfl
theorem d144_191 : decode cX6_reckons 191 = .ok (.getfield 245, 3) := by decide +kernel
theorem z144_191 {st : List Value} {w : pm_H} {pl : pm_L} {x0 : Nat} : pm_ev 144 191 pl (.ref x0 :: st) w = pm_kv 144 194 pl st w (pm_gf (w x0) 6 20) := pm_ng pt_144 pt_F_6_245 d144_191
theorem d144_194 : decode cX6_reckons 194 = .ok (.iconst (-1), 1) := by decide +kernel
theorem z144_194 {st : List Value} {w : pm_H} {pl : pm_L} : pm_ev 144 194 pl st w = pm_ev 144 195 pl (.int (-1) :: st) w := pm_ny pt_144 d144_194 rfl rfl rfl
theorem d144_195 : decode cX6_reckons 195 = .ok (.if_icmp .ne 71, 3) := by decide +kernel
theorem z144_195 {st : List Value} {w : pm_H} {pl : pm_L} {x0 x1 : Int32} : pm_ev 144 195 pl (.int x1 :: .int x0 :: st) w = if x0 = x1 then pm_ev 144 198 pl st w else pm_ev 144 266 pl st w := pm_nin (c := ¬ x0 = x1) pt_144 d144_195 rfl rfl rfl Iff.rfl
theorem d144_198 : decode cX6_reckons 198 = .ok (.aload_n 0, 1) := by decide +kernel
theorem z144_198 {st : List Value} {w : pm_H} {b1 b2 b3 b4 b5 : Option Value} {x0 : Nat} : pm_ev 144 198 [some (.ref x0), b1, b2, b3, b4, b5] st w = pm_ev 144 199 [some (.ref x0), b1, b2, b3, b4, b5] (.ref x0 :: st) w := pm_ny pt_144 d144_198 rfl rfl rfl
theorem d144_199 : decode cX6_reckons 199 = .ok (.getfield 100, 3) := by decide +kernel
theorem z144_199 {st : List Value} {w : pm_H} {pl : pm_L} {x0 : Nat} : pm_ev 144 199 pl (.ref x0 :: st) w = pm_kv 144 202 pl st w (pm_gf (w x0) 6 17) := pm_ng pt_144 pt_F_6_100 d144_199
theorem d144_202 : decode cX6_reckons 202 = .ok (.iload 4, 2) := by decide +kernel
theorem z144_202 {st : List Value} {w : pm_H} {b0 b1 b2 b3 b5 : Option Value} {x0 : Int32} : pm_ev 144 202 [b0, b1, b2, b3, some (.int x0), b5] st w = pm_ev 144 204 [b0, b1, b2, b3, some (.int x0), b5] (.int x0 :: st) w := pm_ny pt_144 d144_202 rfl rfl rfl
theorem d144_204 : decode cX6_reckons 204 = .ok (.iaload, 1) := by decide +kernel
theorem z144_204 {st : List Value} {w : pm_H} {pl : pm_L} {x0 : Nat} {x1 : Int32} : pm_ev 144 204 pl (.int x1 :: .ref x0 :: st) w = pm_kv 144 205 pl st w (pm_ia (w x0) 0 x1) := pm_nia pt_144 d144_204
theorem d144_205 : decode cX6_reckons 205 = .ok (.istore 5, 2) := by decide +kernel
theorem z144_205 {st : List Value} {w : pm_H} {b0 b1 b2 b3 b5 : Option Value} {x0 : Int32} {x9 : Int32} : pm_ev 144 205 [b0, b1, b2, b3, some (.int x9), b5] (.int x0 :: st) w = pm_ev 144 207 [b0, b1, b2, b3, some (.int x9), some (.int x0)] st w := pm_ny pt_144 d144_205 rfl rfl rfl
theorem d144_207 : decode cX6_reckons 207 = .ok (.aload_n 0, 1) := by decide +kernel
theorem z144_207 {st : List Value} {w : pm_H} {b1 b2 b3 b4 b5 : Option Value} {x0 : Nat} : pm_ev 144 207 [some (.ref x0), b1, b2, b3, b4, b5] st w = pm_ev 144 208 [some (.ref x0), b1, b2, b3, b4, b5] (.ref x0 :: st) w := pm_ny pt_144 d144_207 rfl rfl rfl
theorem d144_208 : decode cX6_reckons 208 = .ok (.getfield 239, 3) := by decide +kernel
theorem z144_208 {st : List Value} {w : pm_H} {pl : pm_L} {x0 : Nat} : pm_ev 144 208 pl (.ref x0 :: st) w = pm_kv 144 211 pl st w (pm_gf (w x0) 6 22) := pm_ng pt_144 pt_F_6_239 d144_208
theorem d144_211 : decode cX6_reckons 211 = .ok (.aload_n 0, 1) := by decide +kernel
theorem z144_211 {st : List Value} {w : pm_H} {b1 b2 b3 b4 b5 : Option Value} {x0 : Nat} : pm_ev 144 211 [some (.ref x0), b1, b2, b3, b4, b5] st w = pm_ev 144 212 [some (.ref x0), b1, b2, b3, b4, b5] (.ref x0 :: st) w := pm_ny pt_144 d144_211 rfl rfl rfl
theorem d144_212 : decode cX6_reckons 212 = .ok (.getfield 97, 3) := by decide +kernel
theorem z144_212 {st : List Value} {w : pm_H} {pl : pm_L} {x0 : Nat} : pm_ev 144 212 pl (.ref x0 :: st) w = pm_kv 144 215 pl st w (pm_gf (w x0) 6 16) := pm_ng pt_144 pt_F_6_97 d144_212
theorem d144_215 : decode cX6_reckons 215 = .ok (.iload 5, 2) := by decide +kernel
theorem z144_215 {st : List Value} {w : pm_H} {b0 b1 b2 b3 b4 : Option Value} {x0 : Int32} : pm_ev 144 215 [b0, b1, b2, b3, b4, some (.int x0)] st w = pm_ev 144 217 [b0, b1, b2, b3, b4, some (.int x0)] (.int x0 :: st) w := pm_ny pt_144 d144_215 rfl rfl rfl
theorem d144_217 : decode cX6_reckons 217 = .ok (.laload, 1) := by decide +kernel
theorem z144_217 {st : List Value} {w : pm_H} {pl : pm_L} {x0 : Nat} {x1 : Int32} : pm_ev 144 217 pl (.int x1 :: .ref x0 :: st) w = pm_kv 144 218 pl st w (pm_la (w x0) x1) := pm_nla pt_144 d144_217
theorem d144_218 : decode cX6_reckons 218 = .ok (.ladd, 1) := by decide +kernel
theorem z144_218 {st : List Value} {w : pm_H} {pl : pm_L} {x0 x1 : Int64} : pm_ev 144 218 pl (.long x1 :: .long x0 :: st) w = pm_ev 144 219 pl (.long (x0 + x1) :: st) w := pm_ny pt_144 d144_218 rfl rfl rfl
theorem d144_219 : decode cX6_reckons 219 = .ok (.aload_n 0, 1) := by decide +kernel
theorem z144_219 {st : List Value} {w : pm_H} {b1 b2 b3 b4 b5 : Option Value} {x0 : Nat} : pm_ev 144 219 [some (.ref x0), b1, b2, b3, b4, b5] st w = pm_ev 144 220 [some (.ref x0), b1, b2, b3, b4, b5] (.ref x0 :: st) w := pm_ny pt_144 d144_219 rfl rfl rfl
theorem d144_220 : decode cX6_reckons 220 = .ok (.getfield 236, 3) := by decide +kernel
theorem z144_220 {st : List Value} {w : pm_H} {pl : pm_L} {x0 : Nat} : pm_ev 144 220 pl (.ref x0 :: st) w = pm_kv 144 223 pl st w (pm_gf (w x0) 6 21) := pm_ng pt_144 pt_F_6_236 d144_220
theorem d144_223 : decode cX6_reckons 223 = .ok (.lmul, 1) := by decide +kernel
theorem z144_223 {st : List Value} {w : pm_H} {pl : pm_L} {x0 x1 : Int64} : pm_ev 144 223 pl (.long x1 :: .long x0 :: st) w = pm_ev 144 224 pl (.long (x0 * x1) :: st) w := pm_ny pt_144 d144_223 rfl rfl rfl
theorem d144_224 : decode cX6_reckons 224 = .ok (.aload_n 0, 1) := by decide +kernel
theorem z144_224 {st : List Value} {w : pm_H} {b1 b2 b3 b4 b5 : Option Value} {x0 : Nat} : pm_ev 144 224 [some (.ref x0), b1, b2, b3, b4, b5] st w = pm_ev 144 225 [some (.ref x0), b1, b2, b3, b4, b5] (.ref x0 :: st) w := pm_ny pt_144 d144_224 rfl rfl rfl
theorem d144_225 : decode cX6_reckons 225 = .ok (.getfield 239, 3) := by decide +kernel
theorem z144_225 {st : List Value} {w : pm_H} {pl : pm_L} {x0 : Nat} : pm_ev 144 225 pl (.ref x0 :: st) w = pm_kv 144 228 pl st w (pm_gf (w x0) 6 22) := pm_ng pt_144 pt_F_6_239 d144_225
theorem d144_228 : decode cX6_reckons 228 = .ok (.aload_n 0, 1) := by decide +kernel
theorem z144_228 {st : List Value} {w : pm_H} {b1 b2 b3 b4 b5 : Option Value} {x0 : Nat} : pm_ev 144 228 [some (.ref x0), b1, b2, b3, b4, b5] st w = pm_ev 144 229 [some (.ref x0), b1, b2, b3, b4, b5] (.ref x0 :: st) w := pm_ny pt_144 d144_228 rfl rfl rfl
theorem d144_229 : decode cX6_reckons 229 = .ok (.getfield 236, 3) := by decide +kernel
theorem z144_229 {st : List Value} {w : pm_H} {pl : pm_L} {x0 : Nat} : pm_ev 144 229 pl (.ref x0 :: st) w = pm_kv 144 232 pl st w (pm_gf (w x0) 6 21) := pm_ng pt_144 pt_F_6_236 d144_229
theorem d144_232 : decode cX6_reckons 232 = .ok (.aload_n 0, 1) := by decide +kernel
theorem z144_232 {st : List Value} {w : pm_H} {b1 b2 b3 b4 b5 : Option Value} {x0 : Nat} : pm_ev 144 232 [some (.ref x0), b1, b2, b3, b4, b5] st w = pm_ev 144 233 [some (.ref x0), b1, b2, b3, b4, b5] (.ref x0 :: st) w := pm_ny pt_144 d144_232 rfl rfl rfl
theorem d144_233 : decode cX6_reckons 233 = .ok (.getfield 93, 3) := by decide +kernel
theorem z144_233 {st : List Value} {w : pm_H} {pl : pm_L} {x0 : Nat} : pm_ev 144 233 pl (.ref x0 :: st) w = pm_kv 144 236 pl st w (pm_gf (w x0) 6 15) := pm_ng pt_144 pt_F_6_93 d144_233
theorem d144_236 : decode cX6_reckons 236 = .ok (.iload 5, 2) := by decide +kernel
theorem z144_236 {st : List Value} {w : pm_H} {b0 b1 b2 b3 b4 : Option Value} {x0 : Int32} : pm_ev 144 236 [b0, b1, b2, b3, b4, some (.int x0)] st w = pm_ev 144 238 [b0, b1, b2, b3, b4, some (.int x0)] (.int x0 :: st) w := pm_ny pt_144 d144_236 rfl rfl rfl
theorem d144_238 : decode cX6_reckons 238 = .ok (.laload, 1) := by decide +kernel
theorem z144_238 {st : List Value} {w : pm_H} {pl : pm_L} {x0 : Nat} {x1 : Int32} : pm_ev 144 238 pl (.int x1 :: .ref x0 :: st) w = pm_kv 144 239 pl st w (pm_la (w x0) x1) := pm_nla pt_144 d144_238
theorem d144_239 : decode cX6_reckons 239 = .ok (.ladd, 1) := by decide +kernel
theorem z144_239 {st : List Value} {w : pm_H} {pl : pm_L} {x0 x1 : Int64} : pm_ev 144 239 pl (.long x1 :: .long x0 :: st) w = pm_ev 144 240 pl (.long (x0 + x1) :: st) w := pm_ny pt_144 d144_239 rfl rfl rfl
theorem d144_240 : decode cX6_reckons 240 = .ok (.lmul, 1) := by decide +kernel
theorem z144_240 {st : List Value} {w : pm_H} {pl : pm_L} {x0 x1 : Int64} : pm_ev 144 240 pl (.long x1 :: .long x0 :: st) w = pm_ev 144 241 pl (.long (x0 * x1) :: st) w := pm_ny pt_144 d144_240 rfl rfl rfl
theorem d144_241 : decode cX6_reckons 241 = .ok (.lcmp, 1) := by decide +kernel
theorem z144_241 {st : List Value} {w : pm_H} {pl : pm_L} {x0 x1 : Int64} : pm_ev 144 241 pl (.long x1 :: .long x0 :: st) w = pm_ev 144 242 pl (.int (lg_cmp x0 x1) :: st) w := pm_ny pt_144 d144_241 rfl rfl rfl
theorem d144_242 : decode cX6_reckons 242 = .ok (.ifCond .ge 12, 3) := by decide +kernel
theorem z144_242 {st : List Value} {w : pm_H} {pl : pm_L} {x0 : Int32} : pm_ev 144 242 pl (.int x0 :: st) w = if x0 < 0 then pm_ev 144 245 pl st w else pm_ev 144 254 pl st w := pm_nin (c := 0 ≤ x0) pt_144 d144_242 rfl rfl rfl pm_ge
theorem d144_245 : decode cX6_reckons 245 = .ok (.aload_n 0, 1) := by decide +kernel
theorem z144_245 {st : List Value} {w : pm_H} {b1 b2 b3 b4 b5 : Option Value} {x0 : Nat} : pm_ev 144 245 [some (.ref x0), b1, b2, b3, b4, b5] st w = pm_ev 144 246 [some (.ref x0), b1, b2, b3, b4, b5] (.ref x0 :: st) w := pm_ny pt_144 d144_245 rfl rfl rfl
theorem d144_246 : decode cX6_reckons 246 = .ok (.iload 5, 2) := by decide +kernel
theorem z144_246 {st : List Value} {w : pm_H} {b0 b1 b2 b3 b4 : Option Value} {x0 : Int32} : pm_ev 144 246 [b0, b1, b2, b3, b4, some (.int x0)] st w = pm_ev 144 248 [b0, b1, b2, b3, b4, some (.int x0)] (.int x0 :: st) w := pm_ny pt_144 d144_246 rfl rfl rfl
theorem d144_248 : decode cX6_reckons 248 = .ok (.invokevirtual 248, 3) := by decide +kernel
theorem z144_248 {w : pm_H} {b0 b1 b2 b3 b4 b5 : Option Value} {x0 : Int32} {x1 : Nat} : pm_ev 144 248 [b0, b1, b2, b3, b4, b5] [.int x0, .ref x1] w = pm_k 144 251 [b0, b1, b2, b3, b4, b5] [] (pm_vc (w x1) 6 (pm_call 146 [.ref x1, .int x0] w)) := pm_nv pt_144 pt_146 pt_M_6_248 d144_248 ⟨rfl, rfl⟩ ⟨⟨rfl, Nat.le_of_ble_eq_true rfl, Nat.le_of_ble_eq_true rfl, Nat.le_of_ble_eq_true rfl, Nat.le_of_ble_eq_true rfl⟩, rfl⟩
theorem d144_251 : decode cX6_reckons 251 = .ok (.goto 9, 3) := by decide +kernel
theorem z144_251 {st : List Value} {w : pm_H} {pl : pm_L} : pm_ev 144 251 pl st w = pm_ev 144 260 pl st w := pm_ny pt_144 d144_251 rfl rfl rfl
theorem d144_254 : decode cX6_reckons 254 = .ok (.aload_n 0, 1) := by decide +kernel
theorem z144_254 {st : List Value} {w : pm_H} {b1 b2 b3 b4 b5 : Option Value} {x0 : Nat} : pm_ev 144 254 [some (.ref x0), b1, b2, b3, b4, b5] st w = pm_ev 144 255 [some (.ref x0), b1, b2, b3, b4, b5] (.ref x0 :: st) w := pm_ny pt_144 d144_254 rfl rfl rfl
theorem d144_255 : decode cX6_reckons 255 = .ok (.iload 5, 2) := by decide +kernel
theorem z144_255 {st : List Value} {w : pm_H} {b0 b1 b2 b3 b4 : Option Value} {x0 : Int32} : pm_ev 144 255 [b0, b1, b2, b3, b4, some (.int x0)] st w = pm_ev 144 257 [b0, b1, b2, b3, b4, some (.int x0)] (.int x0 :: st) w := pm_ny pt_144 d144_255 rfl rfl rfl
theorem d144_257 : decode cX6_reckons 257 = .ok (.putfield 245, 3) := by decide +kernel
theorem z144_257 {st : List Value} {w : pm_H} {pl : pm_L} {x0 : Nat} {x1 : Int32} : pm_ev 144 257 pl (.int x1 :: .ref x0 :: st) w = pm_kw 144 260 pl st (pm_pf w x0 (w x0) 6 20 0 (.int x1)) := pm_np pt_144 pt_F_6_245 d144_257
theorem d144_260 : decode cX6_reckons 260 = .ok (.iinc 4 1, 3) := by decide +kernel
theorem z144_260 {st : List Value} {w : pm_H} {b0 b1 b2 b5 : Option Value} {x0 : Int32} {x9 : Int32} : pm_ev 144 260 [b0, b1, b2, some (.int x9), some (.int x0), b5] st w = pm_ev 144 263 [b0, b1, b2, some (.int x9), some (.int (x0 + 1)), b5] st w := pm_ny pt_144 d144_260 rfl rfl rfl
theorem d144_263 : decode cX6_reckons 263 = .ok (.goto (-82), 3) := by decide +kernel
theorem z144_263 {st : List Value} {w : pm_H} {pl : pm_L} : pm_ev 144 263 pl st w = pm_ev 144 181 pl st w := pm_ny pt_144 d144_263 rfl rfl rfl
theorem d144_266 : decode cX6_reckons 266 = .ok (.return_, 1) := by decide +kernel
theorem z144_266 {w : pm_H} {pl : pm_L} : pm_ev 144 266 pl [] w = some (none, w) := pm_nr pt_144 d144_266 rfl
