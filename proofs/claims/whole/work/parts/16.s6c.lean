theorem d145_0 : decode cX6_isAhead 0 = .ok (.aload_n 0, 1) := by decide +kernel
theorem z145_0 {st : List Value} {w : pm_H} {b1 b2 b3 b4 b5 b6 : Option Value} {x0 : Nat} : pm_ev 145 0 [some (.ref x0), b1, b2, b3, b4, b5, b6] st w = pm_ev 145 1 [some (.ref x0), b1, b2, b3, b4, b5, b6] (.ref x0 :: st) w := pm_ny pt_145 d145_0 rfl rfl rfl
theorem d145_1 : decode cX6_isAhead 1 = .ok (.getfield 97, 3) := by decide +kernel
theorem z145_1 {st : List Value} {w : pm_H} {pl : pm_L} {x0 : Nat} : pm_ev 145 1 pl (.ref x0 :: st) w = pm_kv 145 4 pl st w (pm_gf (w x0) 6 16) := pm_ng pt_145 pt_F_6_97 d145_1
theorem d145_4 : decode cX6_isAhead 4 = .ok (.iload_n 1, 1) := by decide +kernel
theorem z145_4 {st : List Value} {w : pm_H} {b0 b2 b3 b4 b5 b6 : Option Value} {x0 : Int32} : pm_ev 145 4 [b0, some (.int x0), b2, b3, b4, b5, b6] st w = pm_ev 145 5 [b0, some (.int x0), b2, b3, b4, b5, b6] (.int x0 :: st) w := pm_ny pt_145 d145_4 rfl rfl rfl
theorem d145_5 : decode cX6_isAhead 5 = .ok (.laload, 1) := by decide +kernel
theorem z145_5 {st : List Value} {w : pm_H} {pl : pm_L} {x0 : Nat} {x1 : Int32} : pm_ev 145 5 pl (.int x1 :: .ref x0 :: st) w = pm_kv 145 6 pl st w (pm_la (w x0) x1) := pm_nla pt_145 d145_5
theorem d145_6 : decode cX6_isAhead 6 = .ok (.aload_n 0, 1) := by decide +kernel
theorem z145_6 {st : List Value} {w : pm_H} {b1 b2 b3 b4 b5 b6 : Option Value} {x0 : Nat} : pm_ev 145 6 [some (.ref x0), b1, b2, b3, b4, b5, b6] st w = pm_ev 145 7 [some (.ref x0), b1, b2, b3, b4, b5, b6] (.ref x0 :: st) w := pm_ny pt_145 d145_6 rfl rfl rfl
theorem d145_7 : decode cX6_isAhead 7 = .ok (.getfield 93, 3) := by decide +kernel
theorem z145_7 {st : List Value} {w : pm_H} {pl : pm_L} {x0 : Nat} : pm_ev 145 7 pl (.ref x0 :: st) w = pm_kv 145 10 pl st w (pm_gf (w x0) 6 15) := pm_ng pt_145 pt_F_6_93 d145_7
theorem d145_10 : decode cX6_isAhead 10 = .ok (.iload_n 2, 1) := by decide +kernel
theorem z145_10 {st : List Value} {w : pm_H} {b0 b1 b3 b4 b5 b6 : Option Value} {x0 : Int32} : pm_ev 145 10 [b0, b1, some (.int x0), b3, b4, b5, b6] st w = pm_ev 145 11 [b0, b1, some (.int x0), b3, b4, b5, b6] (.int x0 :: st) w := pm_ny pt_145 d145_10 rfl rfl rfl
theorem d145_11 : decode cX6_isAhead 11 = .ok (.laload, 1) := by decide +kernel
theorem z145_11 {st : List Value} {w : pm_H} {pl : pm_L} {x0 : Nat} {x1 : Int32} : pm_ev 145 11 pl (.int x1 :: .ref x0 :: st) w = pm_kv 145 12 pl st w (pm_la (w x0) x1) := pm_nla pt_145 d145_11
theorem d145_12 : decode cX6_isAhead 12 = .ok (.lmul, 1) := by decide +kernel
theorem z145_12 {st : List Value} {w : pm_H} {pl : pm_L} {x0 x1 : Int64} : pm_ev 145 12 pl (.long x1 :: .long x0 :: st) w = pm_ev 145 13 pl (.long (x0 * x1) :: st) w := pm_ny pt_145 d145_12 rfl rfl rfl
theorem d145_13 : decode cX6_isAhead 13 = .ok (.lstore_n 3, 1) := by decide +kernel
theorem z145_13 {st : List Value} {w : pm_H} {b0 b1 b3 b4 b5 b6 : Option Value} {x0 : Int64} {x9 : Int32} : pm_ev 145 13 [b0, b1, some (.int x9), b3, b4, b5, b6] (.long x0 :: st) w = pm_ev 145 14 [b0, b1, some (.int x9), some (.long x0), none, b5, b6] st w := pm_ny pt_145 d145_13 rfl rfl rfl
theorem d145_14 : decode cX6_isAhead 14 = .ok (.aload_n 0, 1) := by decide +kernel
theorem z145_14 {st : List Value} {w : pm_H} {b1 b2 b3 b4 b5 b6 : Option Value} {x0 : Nat} : pm_ev 145 14 [some (.ref x0), b1, b2, b3, b4, b5, b6] st w = pm_ev 145 15 [some (.ref x0), b1, b2, b3, b4, b5, b6] (.ref x0 :: st) w := pm_ny pt_145 d145_14 rfl rfl rfl
theorem d145_15 : decode cX6_isAhead 15 = .ok (.getfield 97, 3) := by decide +kernel
theorem z145_15 {st : List Value} {w : pm_H} {pl : pm_L} {x0 : Nat} : pm_ev 145 15 pl (.ref x0 :: st) w = pm_kv 145 18 pl st w (pm_gf (w x0) 6 16) := pm_ng pt_145 pt_F_6_97 d145_15
theorem d145_18 : decode cX6_isAhead 18 = .ok (.iload_n 2, 1) := by decide +kernel
theorem z145_18 {st : List Value} {w : pm_H} {b0 b1 b3 b4 b5 b6 : Option Value} {x0 : Int32} : pm_ev 145 18 [b0, b1, some (.int x0), b3, b4, b5, b6] st w = pm_ev 145 19 [b0, b1, some (.int x0), b3, b4, b5, b6] (.int x0 :: st) w := pm_ny pt_145 d145_18 rfl rfl rfl
theorem d145_19 : decode cX6_isAhead 19 = .ok (.laload, 1) := by decide +kernel
theorem z145_19 {st : List Value} {w : pm_H} {pl : pm_L} {x0 : Nat} {x1 : Int32} : pm_ev 145 19 pl (.int x1 :: .ref x0 :: st) w = pm_kv 145 20 pl st w (pm_la (w x0) x1) := pm_nla pt_145 d145_19
theorem d145_20 : decode cX6_isAhead 20 = .ok (.aload_n 0, 1) := by decide +kernel
theorem z145_20 {st : List Value} {w : pm_H} {b1 b2 b3 b4 b5 b6 : Option Value} {x0 : Nat} : pm_ev 145 20 [some (.ref x0), b1, b2, b3, b4, b5, b6] st w = pm_ev 145 21 [some (.ref x0), b1, b2, b3, b4, b5, b6] (.ref x0 :: st) w := pm_ny pt_145 d145_20 rfl rfl rfl
theorem d145_21 : decode cX6_isAhead 21 = .ok (.getfield 93, 3) := by decide +kernel
theorem z145_21 {st : List Value} {w : pm_H} {pl : pm_L} {x0 : Nat} : pm_ev 145 21 pl (.ref x0 :: st) w = pm_kv 145 24 pl st w (pm_gf (w x0) 6 15) := pm_ng pt_145 pt_F_6_93 d145_21
theorem d145_24 : decode cX6_isAhead 24 = .ok (.iload_n 1, 1) := by decide +kernel
theorem z145_24 {st : List Value} {w : pm_H} {b0 b2 b3 b4 b5 b6 : Option Value} {x0 : Int32} : pm_ev 145 24 [b0, some (.int x0), b2, b3, b4, b5, b6] st w = pm_ev 145 25 [b0, some (.int x0), b2, b3, b4, b5, b6] (.int x0 :: st) w := pm_ny pt_145 d145_24 rfl rfl rfl
theorem d145_25 : decode cX6_isAhead 25 = .ok (.laload, 1) := by decide +kernel
theorem z145_25 {st : List Value} {w : pm_H} {pl : pm_L} {x0 : Nat} {x1 : Int32} : pm_ev 145 25 pl (.int x1 :: .ref x0 :: st) w = pm_kv 145 26 pl st w (pm_la (w x0) x1) := pm_nla pt_145 d145_25
theorem d145_26 : decode cX6_isAhead 26 = .ok (.lmul, 1) := by decide +kernel
theorem z145_26 {st : List Value} {w : pm_H} {pl : pm_L} {x0 x1 : Int64} : pm_ev 145 26 pl (.long x1 :: .long x0 :: st) w = pm_ev 145 27 pl (.long (x0 * x1) :: st) w := pm_ny pt_145 d145_26 rfl rfl rfl
theorem d145_27 : decode cX6_isAhead 27 = .ok (.lstore 5, 2) := by decide +kernel
theorem z145_27 {st : List Value} {w : pm_H} {b0 b1 b2 b3 b5 b6 : Option Value} {x0 : Int64} : pm_ev 145 27 [b0, b1, b2, b3, none, b5, b6] (.long x0 :: st) w = pm_ev 145 29 [b0, b1, b2, b3, none, some (.long x0), none] st w := pm_ny pt_145 d145_27 rfl rfl rfl
theorem d145_29 : decode cX6_isAhead 29 = .ok (.lload_n 3, 1) := by decide +kernel
theorem z145_29 {st : List Value} {w : pm_H} {b0 b1 b2 b4 b5 b6 : Option Value} {x0 : Int64} : pm_ev 145 29 [b0, b1, b2, some (.long x0), b4, b5, b6] st w = pm_ev 145 30 [b0, b1, b2, some (.long x0), b4, b5, b6] (.long x0 :: st) w := pm_ny pt_145 d145_29 rfl rfl rfl
theorem d145_30 : decode cX6_isAhead 30 = .ok (.lload 5, 2) := by decide +kernel
theorem z145_30 {st : List Value} {w : pm_H} {b0 b1 b2 b3 b4 b6 : Option Value} {x0 : Int64} : pm_ev 145 30 [b0, b1, b2, b3, b4, some (.long x0), b6] st w = pm_ev 145 32 [b0, b1, b2, b3, b4, some (.long x0), b6] (.long x0 :: st) w := pm_ny pt_145 d145_30 rfl rfl rfl
theorem d145_32 : decode cX6_isAhead 32 = .ok (.lcmp, 1) := by decide +kernel
theorem z145_32 {st : List Value} {w : pm_H} {pl : pm_L} {x0 x1 : Int64} : pm_ev 145 32 pl (.long x1 :: .long x0 :: st) w = pm_ev 145 33 pl (.int (lg_cmp x0 x1) :: st) w := pm_ny pt_145 d145_32 rfl rfl rfl
theorem d145_33 : decode cX6_isAhead 33 = .ok (.ifCond .eq 18, 3) := by decide +kernel
theorem z145_33 {st : List Value} {w : pm_H} {pl : pm_L} {x0 : Int32} : pm_ev 145 33 pl (.int x0 :: st) w = if x0 = 0 then pm_ev 145 51 pl st w else pm_ev 145 36 pl st w := pm_nif pt_145 d145_33 rfl rfl rfl
theorem d145_36 : decode cX6_isAhead 36 = .ok (.lload_n 3, 1) := by decide +kernel
theorem z145_36 {st : List Value} {w : pm_H} {b0 b1 b2 b4 b5 b6 : Option Value} {x0 : Int64} : pm_ev 145 36 [b0, b1, b2, some (.long x0), b4, b5, b6] st w = pm_ev 145 37 [b0, b1, b2, some (.long x0), b4, b5, b6] (.long x0 :: st) w := pm_ny pt_145 d145_36 rfl rfl rfl
theorem d145_37 : decode cX6_isAhead 37 = .ok (.lload 5, 2) := by decide +kernel
theorem z145_37 {st : List Value} {w : pm_H} {b0 b1 b2 b3 b4 b6 : Option Value} {x0 : Int64} : pm_ev 145 37 [b0, b1, b2, b3, b4, some (.long x0), b6] st w = pm_ev 145 39 [b0, b1, b2, b3, b4, some (.long x0), b6] (.long x0 :: st) w := pm_ny pt_145 d145_37 rfl rfl rfl
theorem d145_39 : decode cX6_isAhead 39 = .ok (.lcmp, 1) := by decide +kernel
theorem z145_39 {st : List Value} {w : pm_H} {pl : pm_L} {x0 x1 : Int64} : pm_ev 145 39 pl (.long x1 :: .long x0 :: st) w = pm_ev 145 40 pl (.int (lg_cmp x0 x1) :: st) w := pm_ny pt_145 d145_39 rfl rfl rfl
theorem d145_40 : decode cX6_isAhead 40 = .ok (.ifCond .ge 7, 3) := by decide +kernel
theorem z145_40 {st : List Value} {w : pm_H} {pl : pm_L} {x0 : Int32} : pm_ev 145 40 pl (.int x0 :: st) w = if x0 < 0 then pm_ev 145 43 pl st w else pm_ev 145 47 pl st w := pm_nin (c := 0 ≤ x0) pt_145 d145_40 rfl rfl rfl pm_ge
theorem d145_43 : decode cX6_isAhead 43 = .ok (.iconst 1, 1) := by decide +kernel
theorem z145_43 {st : List Value} {w : pm_H} {pl : pm_L} : pm_ev 145 43 pl st w = pm_ev 145 44 pl (.int 1 :: st) w := pm_ny pt_145 d145_43 rfl rfl rfl
theorem d145_44 : decode cX6_isAhead 44 = .ok (.goto 17, 3) := by decide +kernel
theorem z145_44 {st : List Value} {w : pm_H} {pl : pm_L} : pm_ev 145 44 pl st w = pm_ev 145 61 pl st w := pm_ny pt_145 d145_44 rfl rfl rfl
theorem d145_47 : decode cX6_isAhead 47 = .ok (.iconst 0, 1) := by decide +kernel
theorem z145_47 {st : List Value} {w : pm_H} {pl : pm_L} : pm_ev 145 47 pl st w = pm_ev 145 48 pl (.int 0 :: st) w := pm_ny pt_145 d145_47 rfl rfl rfl
theorem d145_48 : decode cX6_isAhead 48 = .ok (.goto 13, 3) := by decide +kernel
theorem z145_48 {st : List Value} {w : pm_H} {pl : pm_L} : pm_ev 145 48 pl st w = pm_ev 145 61 pl st w := pm_ny pt_145 d145_48 rfl rfl rfl
theorem d145_51 : decode cX6_isAhead 51 = .ok (.iload_n 1, 1) := by decide +kernel
theorem z145_51 {st : List Value} {w : pm_H} {b0 b2 b3 b4 b5 b6 : Option Value} {x0 : Int32} : pm_ev 145 51 [b0, some (.int x0), b2, b3, b4, b5, b6] st w = pm_ev 145 52 [b0, some (.int x0), b2, b3, b4, b5, b6] (.int x0 :: st) w := pm_ny pt_145 d145_51 rfl rfl rfl
theorem d145_52 : decode cX6_isAhead 52 = .ok (.iload_n 2, 1) := by decide +kernel
theorem z145_52 {st : List Value} {w : pm_H} {b0 b1 b3 b4 b5 b6 : Option Value} {x0 : Int32} : pm_ev 145 52 [b0, b1, some (.int x0), b3, b4, b5, b6] st w = pm_ev 145 53 [b0, b1, some (.int x0), b3, b4, b5, b6] (.int x0 :: st) w := pm_ny pt_145 d145_52 rfl rfl rfl
theorem d145_53 : decode cX6_isAhead 53 = .ok (.if_icmp .ge 7, 3) := by decide +kernel
theorem z145_53 {st : List Value} {w : pm_H} {pl : pm_L} {x0 x1 : Int32} : pm_ev 145 53 pl (.int x1 :: .int x0 :: st) w = if x0 < x1 then pm_ev 145 56 pl st w else pm_ev 145 60 pl st w := pm_nin (c := x1 ≤ x0) pt_145 d145_53 rfl rfl rfl pm_ge
theorem d145_56 : decode cX6_isAhead 56 = .ok (.iconst 1, 1) := by decide +kernel
theorem z145_56 {st : List Value} {w : pm_H} {pl : pm_L} : pm_ev 145 56 pl st w = pm_ev 145 57 pl (.int 1 :: st) w := pm_ny pt_145 d145_56 rfl rfl rfl
theorem d145_57 : decode cX6_isAhead 57 = .ok (.goto 4, 3) := by decide +kernel
theorem z145_57 {st : List Value} {w : pm_H} {pl : pm_L} : pm_ev 145 57 pl st w = pm_ev 145 61 pl st w := pm_ny pt_145 d145_57 rfl rfl rfl
theorem d145_60 : decode cX6_isAhead 60 = .ok (.iconst 0, 1) := by decide +kernel
theorem z145_60 {st : List Value} {w : pm_H} {pl : pm_L} : pm_ev 145 60 pl st w = pm_ev 145 61 pl (.int 0 :: st) w := pm_ny pt_145 d145_60 rfl rfl rfl
theorem d145_61 : decode cX6_isAhead 61 = .ok (.ireturn, 1) := by decide +kernel
theorem z145_61 {w : pm_H} {pl : pm_L} {x0 : Int32} : pm_ev 145 61 pl [.int x0] w = pm_zr x0 w := pm_nz pt_145 d145_61
theorem d146_0 : decode cX6_takes 0 = .ok (.aload_n 0, 1) := by decide +kernel
theorem z146_0 {st : List Value} {w : pm_H} {b1 : Option Value} {x0 : Nat} : pm_ev 146 0 [some (.ref x0), b1] st w = pm_ev 146 1 [some (.ref x0), b1] (.ref x0 :: st) w := pm_ny pt_146 d146_0 rfl rfl rfl
theorem d146_1 : decode cX6_takes 1 = .ok (.dup, 1) := by decide +kernel
theorem z146_1 {st : List Value} {w : pm_H} {pl : pm_L} {x0 : Nat} : pm_ev 146 1 pl (.ref x0 :: st) w = pm_ev 146 2 pl (.ref x0 :: .ref x0 :: st) w := pm_ny pt_146 d146_1 rfl rfl rfl
theorem d146_2 : decode cX6_takes 2 = .ok (.getfield 242, 3) := by decide +kernel
theorem z146_2 {st : List Value} {w : pm_H} {pl : pm_L} {x0 : Nat} : pm_ev 146 2 pl (.ref x0 :: st) w = pm_kv 146 5 pl st w (pm_gf (w x0) 6 19) := pm_ng pt_146 pt_F_6_242 d146_2
theorem d146_5 : decode cX6_takes 5 = .ok (.iconst 1, 1) := by decide +kernel
theorem z146_5 {st : List Value} {w : pm_H} {pl : pm_L} : pm_ev 146 5 pl st w = pm_ev 146 6 pl (.int 1 :: st) w := pm_ny pt_146 d146_5 rfl rfl rfl
theorem d146_6 : decode cX6_takes 6 = .ok (.iload_n 1, 1) := by decide +kernel
theorem z146_6 {st : List Value} {w : pm_H} {b0 : Option Value} {x0 : Int32} : pm_ev 146 6 [b0, some (.int x0)] st w = pm_ev 146 7 [b0, some (.int x0)] (.int x0 :: st) w := pm_ny pt_146 d146_6 rfl rfl rfl
theorem d146_7 : decode cX6_takes 7 = .ok (.ishl, 1) := by decide +kernel
theorem z146_7 {st : List Value} {w : pm_H} {pl : pm_L} {x0 x1 : Int32} : pm_ev 146 7 pl (.int x1 :: .int x0 :: st) w = pm_ev 146 8 pl (.int (x0 <<< (x1 &&& 31)) :: st) w := pm_ny pt_146 d146_7 rfl rfl rfl
theorem d146_8 : decode cX6_takes 8 = .ok (.ior, 1) := by decide +kernel
theorem z146_8 {st : List Value} {w : pm_H} {pl : pm_L} {x0 x1 : Int32} : pm_ev 146 8 pl (.int x1 :: .int x0 :: st) w = pm_ev 146 9 pl (.int (x0 ||| x1) :: st) w := pm_ny pt_146 d146_8 rfl rfl rfl
theorem d146_9 : decode cX6_takes 9 = .ok (.putfield 242, 3) := by decide +kernel
theorem z146_9 {st : List Value} {w : pm_H} {pl : pm_L} {x0 : Nat} {x1 : Int32} : pm_ev 146 9 pl (.int x1 :: .ref x0 :: st) w = pm_kw 146 12 pl st (pm_pf w x0 (w x0) 6 19 0 (.int x1)) := pm_np pt_146 pt_F_6_242 d146_9
theorem d146_12 : decode cX6_takes 12 = .ok (.aload_n 0, 1) := by decide +kernel
theorem z146_12 {st : List Value} {w : pm_H} {b1 : Option Value} {x0 : Nat} : pm_ev 146 12 [some (.ref x0), b1] st w = pm_ev 146 13 [some (.ref x0), b1] (.ref x0 :: st) w := pm_ny pt_146 d146_12 rfl rfl rfl
theorem d146_13 : decode cX6_takes 13 = .ok (.dup, 1) := by decide +kernel
theorem z146_13 {st : List Value} {w : pm_H} {pl : pm_L} {x0 : Nat} : pm_ev 146 13 pl (.ref x0 :: st) w = pm_ev 146 14 pl (.ref x0 :: .ref x0 :: st) w := pm_ny pt_146 d146_13 rfl rfl rfl
theorem d146_14 : decode cX6_takes 14 = .ok (.getfield 236, 3) := by decide +kernel
theorem z146_14 {st : List Value} {w : pm_H} {pl : pm_L} {x0 : Nat} : pm_ev 146 14 pl (.ref x0 :: st) w = pm_kv 146 17 pl st w (pm_gf (w x0) 6 21) := pm_ng pt_146 pt_F_6_236 d146_14
theorem d146_17 : decode cX6_takes 17 = .ok (.aload_n 0, 1) := by decide +kernel
theorem z146_17 {st : List Value} {w : pm_H} {b1 : Option Value} {x0 : Nat} : pm_ev 146 17 [some (.ref x0), b1] st w = pm_ev 146 18 [some (.ref x0), b1] (.ref x0 :: st) w := pm_ny pt_146 d146_17 rfl rfl rfl
theorem d146_18 : decode cX6_takes 18 = .ok (.getfield 93, 3) := by decide +kernel
theorem z146_18 {st : List Value} {w : pm_H} {pl : pm_L} {x0 : Nat} : pm_ev 146 18 pl (.ref x0 :: st) w = pm_kv 146 21 pl st w (pm_gf (w x0) 6 15) := pm_ng pt_146 pt_F_6_93 d146_18
theorem d146_21 : decode cX6_takes 21 = .ok (.iload_n 1, 1) := by decide +kernel
theorem z146_21 {st : List Value} {w : pm_H} {b0 : Option Value} {x0 : Int32} : pm_ev 146 21 [b0, some (.int x0)] st w = pm_ev 146 22 [b0, some (.int x0)] (.int x0 :: st) w := pm_ny pt_146 d146_21 rfl rfl rfl
theorem d146_22 : decode cX6_takes 22 = .ok (.laload, 1) := by decide +kernel
theorem z146_22 {st : List Value} {w : pm_H} {pl : pm_L} {x0 : Nat} {x1 : Int32} : pm_ev 146 22 pl (.int x1 :: .ref x0 :: st) w = pm_kv 146 23 pl st w (pm_la (w x0) x1) := pm_nla pt_146 d146_22
theorem d146_23 : decode cX6_takes 23 = .ok (.ladd, 1) := by decide +kernel
theorem z146_23 {st : List Value} {w : pm_H} {pl : pm_L} {x0 x1 : Int64} : pm_ev 146 23 pl (.long x1 :: .long x0 :: st) w = pm_ev 146 24 pl (.long (x0 + x1) :: st) w := pm_ny pt_146 d146_23 rfl rfl rfl
theorem d146_24 : decode cX6_takes 24 = .ok (.putfield 236, 3) := by decide +kernel
theorem z146_24 {st : List Value} {w : pm_H} {pl : pm_L} {x0 : Nat} {x1 : Int64} : pm_ev 146 24 pl (.long x1 :: .ref x0 :: st) w = pm_kw 146 27 pl st (pm_pf w x0 (w x0) 6 21 1 (.long x1)) := pm_np pt_146 pt_F_6_236 d146_24
theorem d146_27 : decode cX6_takes 27 = .ok (.aload_n 0, 1) := by decide +kernel
theorem z146_27 {st : List Value} {w : pm_H} {b1 : Option Value} {x0 : Nat} : pm_ev 146 27 [some (.ref x0), b1] st w = pm_ev 146 28 [some (.ref x0), b1] (.ref x0 :: st) w := pm_ny pt_146 d146_27 rfl rfl rfl
theorem d146_28 : decode cX6_takes 28 = .ok (.dup, 1) := by decide +kernel
theorem z146_28 {st : List Value} {w : pm_H} {pl : pm_L} {x0 : Nat} : pm_ev 146 28 pl (.ref x0 :: st) w = pm_ev 146 29 pl (.ref x0 :: .ref x0 :: st) w := pm_ny pt_146 d146_28 rfl rfl rfl
theorem d146_29 : decode cX6_takes 29 = .ok (.getfield 239, 3) := by decide +kernel
theorem z146_29 {st : List Value} {w : pm_H} {pl : pm_L} {x0 : Nat} : pm_ev 146 29 pl (.ref x0 :: st) w = pm_kv 146 32 pl st w (pm_gf (w x0) 6 22) := pm_ng pt_146 pt_F_6_239 d146_29
theorem d146_32 : decode cX6_takes 32 = .ok (.aload_n 0, 1) := by decide +kernel
theorem z146_32 {st : List Value} {w : pm_H} {b1 : Option Value} {x0 : Nat} : pm_ev 146 32 [some (.ref x0), b1] st w = pm_ev 146 33 [some (.ref x0), b1] (.ref x0 :: st) w := pm_ny pt_146 d146_32 rfl rfl rfl
theorem d146_33 : decode cX6_takes 33 = .ok (.getfield 97, 3) := by decide +kernel
theorem z146_33 {st : List Value} {w : pm_H} {pl : pm_L} {x0 : Nat} : pm_ev 146 33 pl (.ref x0 :: st) w = pm_kv 146 36 pl st w (pm_gf (w x0) 6 16) := pm_ng pt_146 pt_F_6_97 d146_33
theorem d146_36 : decode cX6_takes 36 = .ok (.iload_n 1, 1) := by decide +kernel
theorem z146_36 {st : List Value} {w : pm_H} {b0 : Option Value} {x0 : Int32} : pm_ev 146 36 [b0, some (.int x0)] st w = pm_ev 146 37 [b0, some (.int x0)] (.int x0 :: st) w := pm_ny pt_146 d146_36 rfl rfl rfl
theorem d146_37 : decode cX6_takes 37 = .ok (.laload, 1) := by decide +kernel
theorem z146_37 {st : List Value} {w : pm_H} {pl : pm_L} {x0 : Nat} {x1 : Int32} : pm_ev 146 37 pl (.int x1 :: .ref x0 :: st) w = pm_kv 146 38 pl st w (pm_la (w x0) x1) := pm_nla pt_146 d146_37
theorem d146_38 : decode cX6_takes 38 = .ok (.ladd, 1) := by decide +kernel
theorem z146_38 {st : List Value} {w : pm_H} {pl : pm_L} {x0 x1 : Int64} : pm_ev 146 38 pl (.long x1 :: .long x0 :: st) w = pm_ev 146 39 pl (.long (x0 + x1) :: st) w := pm_ny pt_146 d146_38 rfl rfl rfl
theorem d146_39 : decode cX6_takes 39 = .ok (.putfield 239, 3) := by decide +kernel
theorem z146_39 {st : List Value} {w : pm_H} {pl : pm_L} {x0 : Nat} {x1 : Int64} : pm_ev 146 39 pl (.long x1 :: .ref x0 :: st) w = pm_kw 146 42 pl st (pm_pf w x0 (w x0) 6 22 1 (.long x1)) := pm_np pt_146 pt_F_6_239 d146_39
theorem d146_42 : decode cX6_takes 42 = .ok (.return_, 1) := by decide +kernel
theorem z146_42 {w : pm_H} {pl : pm_L} : pm_ev 146 42 pl [] w = some (none, w) := pm_nr pt_146 d146_42 rfl
theorem d147_0 : decode cX6_share 0 = .ok (.lload_n 0, 1) := by decide +kernel
theorem z147_0 {st : List Value} {w : pm_H} {b1 b2 b3 b4 b5 b6 b7 b8 b9 : Option Value} {x0 : Int64} : pm_ev 147 0 [some (.long x0), b1, b2, b3, b4, b5, b6, b7, b8, b9] st w = pm_ev 147 1 [some (.long x0), b1, b2, b3, b4, b5, b6, b7, b8, b9] (.long x0 :: st) w := pm_ny pt_147 d147_0 rfl rfl rfl
theorem d147_1 : decode cX6_share 1 = .ok (.ldc2_w 251, 3) := by decide +kernel
theorem z147_1 {st : List Value} {w : pm_H} {pl : pm_L} : pm_ev 147 1 pl st w = pm_ev 147 4 pl (.long (1000) :: st) w := pm_nk2 pt_147 pt_K_6_251 rfl d147_1
theorem d147_4 : decode cX6_share 4 = .ok (.lmul, 1) := by decide +kernel
theorem z147_4 {st : List Value} {w : pm_H} {pl : pm_L} {x0 x1 : Int64} : pm_ev 147 4 pl (.long x1 :: .long x0 :: st) w = pm_ev 147 5 pl (.long (x0 * x1) :: st) w := pm_ny pt_147 d147_4 rfl rfl rfl
theorem d147_5 : decode cX6_share 5 = .ok (.ldc2_w 253, 3) := by decide +kernel
theorem z147_5 {st : List Value} {w : pm_H} {pl : pm_L} : pm_ev 147 5 pl st w = pm_ev 147 8 pl (.long (90) :: st) w := pm_nk2 pt_147 pt_K_6_253 rfl d147_5
theorem d147_8 : decode cX6_share 8 = .ok (.iload 5, 2) := by decide +kernel
theorem z147_8 {st : List Value} {w : pm_H} {b0 b1 b2 b3 b4 b6 b7 b8 b9 : Option Value} {x0 : Int32} : pm_ev 147 8 [b0, b1, b2, b3, b4, some (.int x0), b6, b7, b8, b9] st w = pm_ev 147 10 [b0, b1, b2, b3, b4, some (.int x0), b6, b7, b8, b9] (.int x0 :: st) w := pm_ny pt_147 d147_8 rfl rfl rfl
theorem d147_10 : decode cX6_share 10 = .ok (.iload 4, 2) := by decide +kernel
theorem z147_10 {st : List Value} {w : pm_H} {b0 b1 b2 b3 b5 b6 b7 b8 b9 : Option Value} {x0 : Int32} : pm_ev 147 10 [b0, b1, b2, b3, some (.int x0), b5, b6, b7, b8, b9] st w = pm_ev 147 12 [b0, b1, b2, b3, some (.int x0), b5, b6, b7, b8, b9] (.int x0 :: st) w := pm_ny pt_147 d147_10 rfl rfl rfl
theorem d147_12 : decode cX6_share 12 = .ok (.isub, 1) := by decide +kernel
theorem z147_12 {st : List Value} {w : pm_H} {pl : pm_L} {x0 x1 : Int32} : pm_ev 147 12 pl (.int x1 :: .int x0 :: st) w = pm_ev 147 13 pl (.int (x0 - x1) :: st) w := pm_ny pt_147 d147_12 rfl rfl rfl
theorem d147_13 : decode cX6_share 13 = .ok (.iconst 1, 1) := by decide +kernel
theorem z147_13 {st : List Value} {w : pm_H} {pl : pm_L} : pm_ev 147 13 pl st w = pm_ev 147 14 pl (.int 1 :: st) w := pm_ny pt_147 d147_13 rfl rfl rfl
theorem d147_14 : decode cX6_share 14 = .ok (.iadd, 1) := by decide +kernel
theorem z147_14 {st : List Value} {w : pm_H} {pl : pm_L} {x0 x1 : Int32} : pm_ev 147 14 pl (.int x1 :: .int x0 :: st) w = pm_ev 147 15 pl (.int (x0 + x1) :: st) w := pm_ny pt_147 d147_14 rfl rfl rfl
theorem d147_15 : decode cX6_share 15 = .ok (.i2l, 1) := by decide +kernel
theorem z147_15 {st : List Value} {w : pm_H} {pl : pm_L} {x0 : Int32} : pm_ev 147 15 pl (.int x0 :: st) w = pm_ev 147 16 pl (.long x0.toInt64 :: st) w := pm_ny pt_147 d147_15 rfl rfl rfl
theorem d147_16 : decode cX6_share 16 = .ok (.lmul, 1) := by decide +kernel
theorem z147_16 {st : List Value} {w : pm_H} {pl : pm_L} {x0 x1 : Int64} : pm_ev 147 16 pl (.long x1 :: .long x0 :: st) w = pm_ev 147 17 pl (.long (x0 * x1) :: st) w := pm_ny pt_147 d147_16 rfl rfl rfl
theorem d147_17 : decode cX6_share 17 = .ok (.lmul, 1) := by decide +kernel
theorem z147_17 {st : List Value} {w : pm_H} {pl : pm_L} {x0 x1 : Int64} : pm_ev 147 17 pl (.long x1 :: .long x0 :: st) w = pm_ev 147 18 pl (.long (x0 * x1) :: st) w := pm_ny pt_147 d147_17 rfl rfl rfl
theorem d147_18 : decode cX6_share 18 = .ok (.lstore 6, 2) := by decide +kernel
theorem z147_18 {st : List Value} {w : pm_H} {b0 b1 b2 b3 b4 b6 b7 b8 b9 : Option Value} {x0 : Int64} {x9 : Int32} : pm_ev 147 18 [b0, b1, b2, b3, b4, some (.int x9), b6, b7, b8, b9] (.long x0 :: st) w = pm_ev 147 20 [b0, b1, b2, b3, b4, some (.int x9), some (.long x0), none, b8, b9] st w := pm_ny pt_147 d147_18 rfl rfl rfl
theorem d147_20 : decode cX6_share 20 = .ok (.lload 6, 2) := by decide +kernel
theorem z147_20 {st : List Value} {w : pm_H} {b0 b1 b2 b3 b4 b5 b7 b8 b9 : Option Value} {x0 : Int64} : pm_ev 147 20 [b0, b1, b2, b3, b4, b5, some (.long x0), b7, b8, b9] st w = pm_ev 147 22 [b0, b1, b2, b3, b4, b5, some (.long x0), b7, b8, b9] (.long x0 :: st) w := pm_ny pt_147 d147_20 rfl rfl rfl
theorem d147_22 : decode cX6_share 22 = .ok (.lload_n 2, 1) := by decide +kernel
theorem z147_22 {st : List Value} {w : pm_H} {b0 b1 b3 b4 b5 b6 b7 b8 b9 : Option Value} {x0 : Int64} : pm_ev 147 22 [b0, b1, some (.long x0), b3, b4, b5, b6, b7, b8, b9] st w = pm_ev 147 23 [b0, b1, some (.long x0), b3, b4, b5, b6, b7, b8, b9] (.long x0 :: st) w := pm_ny pt_147 d147_22 rfl rfl rfl
theorem d147_23 : decode cX6_share 23 = .ok (.ldiv, 1) := by decide +kernel
theorem z147_23 {st : List Value} {w : pm_H} {pl : pm_L} {x0 x1 : Int64} : pm_ev 147 23 pl (.long x1 :: .long x0 :: st) w = pm_kv 147 24 pl st w (pm_dv x0 x1) := pm_nd pt_147 d147_23
theorem d147_24 : decode cX6_share 24 = .ok (.lstore 8, 2) := by decide +kernel
theorem z147_24 {st : List Value} {w : pm_H} {b0 b1 b2 b3 b4 b5 b6 b8 b9 : Option Value} {x0 : Int64} : pm_ev 147 24 [b0, b1, b2, b3, b4, b5, b6, none, b8, b9] (.long x0 :: st) w = pm_ev 147 26 [b0, b1, b2, b3, b4, b5, b6, none, some (.long x0), none] st w := pm_ny pt_147 d147_24 rfl rfl rfl
theorem d147_26 : decode cX6_share 26 = .ok (.lload 8, 2) := by decide +kernel
theorem z147_26 {st : List Value} {w : pm_H} {b0 b1 b2 b3 b4 b5 b6 b7 b9 : Option Value} {x0 : Int64} : pm_ev 147 26 [b0, b1, b2, b3, b4, b5, b6, b7, some (.long x0), b9] st w = pm_ev 147 28 [b0, b1, b2, b3, b4, b5, b6, b7, some (.long x0), b9] (.long x0 :: st) w := pm_ny pt_147 d147_26 rfl rfl rfl
theorem d147_28 : decode cX6_share 28 = .ok (.lload_n 2, 1) := by decide +kernel
theorem z147_28 {st : List Value} {w : pm_H} {b0 b1 b3 b4 b5 b6 b7 b8 b9 : Option Value} {x0 : Int64} : pm_ev 147 28 [b0, b1, some (.long x0), b3, b4, b5, b6, b7, b8, b9] st w = pm_ev 147 29 [b0, b1, some (.long x0), b3, b4, b5, b6, b7, b8, b9] (.long x0 :: st) w := pm_ny pt_147 d147_28 rfl rfl rfl
theorem d147_29 : decode cX6_share 29 = .ok (.lmul, 1) := by decide +kernel
theorem z147_29 {st : List Value} {w : pm_H} {pl : pm_L} {x0 x1 : Int64} : pm_ev 147 29 pl (.long x1 :: .long x0 :: st) w = pm_ev 147 30 pl (.long (x0 * x1) :: st) w := pm_ny pt_147 d147_29 rfl rfl rfl
theorem d147_30 : decode cX6_share 30 = .ok (.lload 6, 2) := by decide +kernel
theorem z147_30 {st : List Value} {w : pm_H} {b0 b1 b2 b3 b4 b5 b7 b8 b9 : Option Value} {x0 : Int64} : pm_ev 147 30 [b0, b1, b2, b3, b4, b5, some (.long x0), b7, b8, b9] st w = pm_ev 147 32 [b0, b1, b2, b3, b4, b5, some (.long x0), b7, b8, b9] (.long x0 :: st) w := pm_ny pt_147 d147_30 rfl rfl rfl
theorem d147_32 : decode cX6_share 32 = .ok (.lcmp, 1) := by decide +kernel
theorem z147_32 {st : List Value} {w : pm_H} {pl : pm_L} {x0 x1 : Int64} : pm_ev 147 32 pl (.long x1 :: .long x0 :: st) w = pm_ev 147 33 pl (.int (lg_cmp x0 x1) :: st) w := pm_ny pt_147 d147_32 rfl rfl rfl
theorem d147_33 : decode cX6_share 33 = .ok (.ifCond .le 10, 3) := by decide +kernel
theorem z147_33 {st : List Value} {w : pm_H} {pl : pm_L} {x0 : Int32} : pm_ev 147 33 pl (.int x0 :: st) w = if 0 < x0 then pm_ev 147 36 pl st w else pm_ev 147 43 pl st w := pm_nin (c := x0 ≤ 0) pt_147 d147_33 rfl rfl rfl pm_ge
theorem d147_36 : decode cX6_share 36 = .ok (.lload 8, 2) := by decide +kernel
theorem z147_36 {st : List Value} {w : pm_H} {b0 b1 b2 b3 b4 b5 b6 b7 b9 : Option Value} {x0 : Int64} : pm_ev 147 36 [b0, b1, b2, b3, b4, b5, b6, b7, some (.long x0), b9] st w = pm_ev 147 38 [b0, b1, b2, b3, b4, b5, b6, b7, some (.long x0), b9] (.long x0 :: st) w := pm_ny pt_147 d147_36 rfl rfl rfl
theorem d147_38 : decode cX6_share 38 = .ok (.lconst 1, 1) := by decide +kernel
theorem z147_38 {st : List Value} {w : pm_H} {pl : pm_L} : pm_ev 147 38 pl st w = pm_ev 147 39 pl (.long 1 :: st) w := pm_ny pt_147 d147_38 rfl rfl rfl
theorem d147_39 : decode cX6_share 39 = .ok (.lsub, 1) := by decide +kernel
theorem z147_39 {st : List Value} {w : pm_H} {pl : pm_L} {x0 x1 : Int64} : pm_ev 147 39 pl (.long x1 :: .long x0 :: st) w = pm_ev 147 40 pl (.long (x0 - x1) :: st) w := pm_ny pt_147 d147_39 rfl rfl rfl
theorem d147_40 : decode cX6_share 40 = .ok (.goto 5, 3) := by decide +kernel
theorem z147_40 {st : List Value} {w : pm_H} {pl : pm_L} : pm_ev 147 40 pl st w = pm_ev 147 45 pl st w := pm_ny pt_147 d147_40 rfl rfl rfl
theorem d147_43 : decode cX6_share 43 = .ok (.lload 8, 2) := by decide +kernel
theorem z147_43 {st : List Value} {w : pm_H} {b0 b1 b2 b3 b4 b5 b6 b7 b9 : Option Value} {x0 : Int64} : pm_ev 147 43 [b0, b1, b2, b3, b4, b5, b6, b7, some (.long x0), b9] st w = pm_ev 147 45 [b0, b1, b2, b3, b4, b5, b6, b7, some (.long x0), b9] (.long x0 :: st) w := pm_ny pt_147 d147_43 rfl rfl rfl
theorem d147_45 : decode cX6_share 45 = .ok (.l2i, 1) := by decide +kernel
theorem z147_45 {st : List Value} {w : pm_H} {pl : pm_L} {x0 : Int64} : pm_ev 147 45 pl (.long x0 :: st) w = pm_ev 147 46 pl (.int x0.toInt32 :: st) w := pm_ny pt_147 d147_45 rfl rfl rfl
theorem d147_46 : decode cX6_share 46 = .ok (.ireturn, 1) := by decide +kernel
theorem z147_46 {w : pm_H} {pl : pm_L} {x0 : Int32} : pm_ev 147 46 pl [.int x0] w = some (some (.int x0), w) := pm_nr pt_147 d147_46 rfl
theorem d148_0 : decode cX6_rank 0 = .ok (.aload_n 0, 1) := by decide +kernel
theorem z148_0 {st : List Value} {w : pm_H} {b1 b2 b3 : Option Value} {x0 : Nat} : pm_ev 148 0 [some (.ref x0), b1, b2, b3] st w = pm_ev 148 1 [some (.ref x0), b1, b2, b3] (.ref x0 :: st) w := pm_ny pt_148 d148_0 rfl rfl rfl
theorem d148_1 : decode cX6_rank 1 = .ok (.iconst 0, 1) := by decide +kernel
theorem z148_1 {st : List Value} {w : pm_H} {pl : pm_L} : pm_ev 148 1 pl st w = pm_ev 148 2 pl (.int 0 :: st) w := pm_ny pt_148 d148_1 rfl rfl rfl
theorem d148_2 : decode cX6_rank 2 = .ok (.putfield 1, 3) := by decide +kernel
theorem z148_2 {st : List Value} {w : pm_H} {pl : pm_L} {x0 : Nat} {x1 : Int32} : pm_ev 148 2 pl (.int x1 :: .ref x0 :: st) w = pm_kw 148 5 pl st (pm_pf w x0 (w x0) 6 0 0 (.int x1)) := pm_np pt_148 pt_F_6_1 d148_2
theorem d148_5 : decode cX6_rank 5 = .ok (.iload_n 1, 1) := by decide +kernel
theorem z148_5 {st : List Value} {w : pm_H} {b0 b2 b3 : Option Value} {x0 : Int32} : pm_ev 148 5 [b0, some (.int x0), b2, b3] st w = pm_ev 148 6 [b0, some (.int x0), b2, b3] (.int x0 :: st) w := pm_ny pt_148 d148_5 rfl rfl rfl
theorem d148_6 : decode cX6_rank 6 = .ok (.iload_n 2, 1) := by decide +kernel
theorem z148_6 {st : List Value} {w : pm_H} {b0 b1 b3 : Option Value} {x0 : Int32} : pm_ev 148 6 [b0, b1, some (.int x0), b3] st w = pm_ev 148 7 [b0, b1, some (.int x0), b3] (.int x0 :: st) w := pm_ny pt_148 d148_6 rfl rfl rfl
theorem d148_7 : decode cX6_rank 7 = .ok (.invokestatic 217, 3) := by decide +kernel
theorem z148_7 {w : pm_H} {b0 b1 b2 b3 : Option Value} {x0 : Int32} {x1 : Int32} : pm_ev 148 7 [b0, b1, b2, b3] [.int x0, .int x1] w = pm_k 148 10 [b0, b1, b2, b3] [] (pm_call 133 [.int x1, .int x0] w) := pm_ns pt_148 pt_133 pt_M_6_217 (Or.inl rfl) d148_7 ⟨rfl, rfl⟩ ⟨⟨rfl, Nat.le_of_ble_eq_true rfl, Nat.le_of_ble_eq_true rfl, Nat.le_of_ble_eq_true rfl, Nat.le_of_ble_eq_true rfl⟩, rfl⟩
theorem d148_10 : decode cX6_rank 10 = .ok (.ifCond .ne 8, 3) := by decide +kernel
theorem z148_10 {st : List Value} {w : pm_H} {pl : pm_L} {x0 : Int32} : pm_ev 148 10 pl (.int x0 :: st) w = if x0 = 0 then pm_ev 148 13 pl st w else pm_ev 148 18 pl st w := pm_nin (c := ¬ x0 = 0) pt_148 d148_10 rfl rfl rfl Iff.rfl
theorem d148_13 : decode cX6_rank 13 = .ok (.aload_n 0, 1) := by decide +kernel
theorem z148_13 {st : List Value} {w : pm_H} {b1 b2 b3 : Option Value} {x0 : Nat} : pm_ev 148 13 [some (.ref x0), b1, b2, b3] st w = pm_ev 148 14 [some (.ref x0), b1, b2, b3] (.ref x0 :: st) w := pm_ny pt_148 d148_13 rfl rfl rfl
theorem d148_14 : decode cX6_rank 14 = .ok (.invokevirtual 191, 3) := by decide +kernel
theorem z148_14 {w : pm_H} {b0 b1 b2 b3 : Option Value} {x0 : Nat} : pm_ev 148 14 [b0, b1, b2, b3] [.ref x0] w = pm_k 148 17 [b0, b1, b2, b3] [] (pm_vc (w x0) 6 (pm_call 126 [.ref x0] w)) := pm_nv pt_148 pt_126 pt_M_6_191 d148_14 ⟨rfl, rfl⟩ ⟨⟨rfl, Nat.le_of_ble_eq_true rfl, Nat.le_of_ble_eq_true rfl, Nat.le_of_ble_eq_true rfl, Nat.le_of_ble_eq_true rfl⟩, rfl⟩
theorem d148_17 : decode cX6_rank 17 = .ok (.ireturn, 1) := by decide +kernel
theorem z148_17 {w : pm_H} {pl : pm_L} {x0 : Int32} : pm_ev 148 17 pl [.int x0] w = some (some (.int x0), w) := pm_nr pt_148 d148_17 rfl
theorem d148_18 : decode cX6_rank 18 = .ok (.aload_n 0, 1) := by decide +kernel
theorem z148_18 {st : List Value} {w : pm_H} {b1 b2 b3 : Option Value} {x0 : Nat} : pm_ev 148 18 [some (.ref x0), b1, b2, b3] st w = pm_ev 148 19 [some (.ref x0), b1, b2, b3] (.ref x0 :: st) w := pm_ny pt_148 d148_18 rfl rfl rfl
theorem d148_19 : decode cX6_rank 19 = .ok (.iload_n 1, 1) := by decide +kernel
theorem z148_19 {st : List Value} {w : pm_H} {b0 b2 b3 : Option Value} {x0 : Int32} : pm_ev 148 19 [b0, some (.int x0), b2, b3] st w = pm_ev 148 20 [b0, some (.int x0), b2, b3] (.int x0 :: st) w := pm_ny pt_148 d148_19 rfl rfl rfl
theorem d148_20 : decode cX6_rank 20 = .ok (.iload_n 2, 1) := by decide +kernel
theorem z148_20 {st : List Value} {w : pm_H} {b0 b1 b3 : Option Value} {x0 : Int32} : pm_ev 148 20 [b0, b1, some (.int x0), b3] st w = pm_ev 148 21 [b0, b1, some (.int x0), b3] (.int x0 :: st) w := pm_ny pt_148 d148_20 rfl rfl rfl
theorem d148_21 : decode cX6_rank 21 = .ok (.iconst (-1), 1) := by decide +kernel
theorem z148_21 {st : List Value} {w : pm_H} {pl : pm_L} : pm_ev 148 21 pl st w = pm_ev 148 22 pl (.int (-1) :: st) w := pm_ny pt_148 d148_21 rfl rfl rfl
theorem d148_22 : decode cX6_rank 22 = .ok (.invokevirtual 255, 3) := by decide +kernel
theorem z148_22 {w : pm_H} {b0 b1 b2 b3 : Option Value} {x0 : Int32} {x1 : Int32} {x2 : Int32} {x3 : Nat} : pm_ev 148 22 [b0, b1, b2, b3] [.int x0, .int x1, .int x2, .ref x3] w = pm_k 148 25 [b0, b1, b2, b3] [] (pm_vc (w x3) 6 (pm_call 144 [.ref x3, .int x2, .int x1, .int x0] w)) := pm_nv pt_148 pt_144 pt_M_6_255 d148_22 ⟨rfl, rfl⟩ ⟨⟨rfl, Nat.le_of_ble_eq_true rfl, Nat.le_of_ble_eq_true rfl, Nat.le_of_ble_eq_true rfl, Nat.le_of_ble_eq_true rfl⟩, rfl⟩
theorem d148_25 : decode cX6_rank 25 = .ok (.iload_n 3, 1) := by decide +kernel
theorem z148_25 {st : List Value} {w : pm_H} {b0 b1 b2 : Option Value} {x0 : Int32} : pm_ev 148 25 [b0, b1, b2, some (.int x0)] st w = pm_ev 148 26 [b0, b1, b2, some (.int x0)] (.int x0 :: st) w := pm_ny pt_148 d148_25 rfl rfl rfl
theorem d148_26 : decode cX6_rank 26 = .ok (.iconst 0, 1) := by decide +kernel
theorem z148_26 {st : List Value} {w : pm_H} {pl : pm_L} : pm_ev 148 26 pl st w = pm_ev 148 27 pl (.int 0 :: st) w := pm_ny pt_148 d148_26 rfl rfl rfl
theorem d148_27 : decode cX6_rank 27 = .ok (.aload_n 0, 1) := by decide +kernel
theorem z148_27 {st : List Value} {w : pm_H} {b1 b2 b3 : Option Value} {x0 : Nat} : pm_ev 148 27 [some (.ref x0), b1, b2, b3] st w = pm_ev 148 28 [some (.ref x0), b1, b2, b3] (.ref x0 :: st) w := pm_ny pt_148 d148_27 rfl rfl rfl
theorem d148_28 : decode cX6_rank 28 = .ok (.getfield 230, 3) := by decide +kernel
theorem z148_28 {st : List Value} {w : pm_H} {pl : pm_L} {x0 : Nat} : pm_ev 148 28 pl (.ref x0 :: st) w = pm_kv 148 31 pl st w (pm_gf (w x0) 6 18) := pm_ng pt_148 pt_F_6_230 d148_28
theorem d148_31 : decode cX6_rank 31 = .ok (.iconst 1, 1) := by decide +kernel
theorem z148_31 {st : List Value} {w : pm_H} {pl : pm_L} : pm_ev 148 31 pl st w = pm_ev 148 32 pl (.int 1 :: st) w := pm_ny pt_148 d148_31 rfl rfl rfl
theorem d148_32 : decode cX6_rank 32 = .ok (.isub, 1) := by decide +kernel
theorem z148_32 {st : List Value} {w : pm_H} {pl : pm_L} {x0 x1 : Int32} : pm_ev 148 32 pl (.int x1 :: .int x0 :: st) w = pm_ev 148 33 pl (.int (x0 - x1) :: st) w := pm_ny pt_148 d148_32 rfl rfl rfl
theorem d148_33 : decode cX6_rank 33 = .ok (.invokestatic 110, 3) := by decide +kernel
theorem z148_33 {w : pm_H} {b0 b1 b2 b3 : Option Value} {x0 : Int32} {x1 : Int32} {x2 : Int32} : pm_ev 148 33 [b0, b1, b2, b3] [.int x0, .int x1, .int x2] w = pm_k 148 36 [b0, b1, b2, b3] [] (pm_call 96 [.int x2, .int x1, .int x0] w) := pm_ns pt_148 pt_96 pt_M_6_110 (Or.inl rfl) d148_33 ⟨rfl, rfl⟩ ⟨⟨rfl, Nat.le_of_ble_eq_true rfl, Nat.le_of_ble_eq_true rfl, Nat.le_of_ble_eq_true rfl, Nat.le_of_ble_eq_true rfl⟩, rfl⟩
theorem d148_36 : decode cX6_rank 36 = .ok (.ifCond .eq 12, 3) := by decide +kernel
theorem z148_36 {st : List Value} {w : pm_H} {pl : pm_L} {x0 : Int32} : pm_ev 148 36 pl (.int x0 :: st) w = if x0 = 0 then pm_ev 148 48 pl st w else pm_ev 148 39 pl st w := pm_nif pt_148 d148_36 rfl rfl rfl
theorem d148_39 : decode cX6_rank 39 = .ok (.aload_n 0, 1) := by decide +kernel
theorem z148_39 {st : List Value} {w : pm_H} {b1 b2 b3 : Option Value} {x0 : Nat} : pm_ev 148 39 [some (.ref x0), b1, b2, b3] st w = pm_ev 148 40 [some (.ref x0), b1, b2, b3] (.ref x0 :: st) w := pm_ny pt_148 d148_39 rfl rfl rfl
theorem d148_40 : decode cX6_rank 40 = .ok (.getfield 100, 3) := by decide +kernel
theorem z148_40 {st : List Value} {w : pm_H} {pl : pm_L} {x0 : Nat} : pm_ev 148 40 pl (.ref x0 :: st) w = pm_kv 148 43 pl st w (pm_gf (w x0) 6 17) := pm_ng pt_148 pt_F_6_100 d148_40
theorem d148_43 : decode cX6_rank 43 = .ok (.iload_n 3, 1) := by decide +kernel
theorem z148_43 {st : List Value} {w : pm_H} {b0 b1 b2 : Option Value} {x0 : Int32} : pm_ev 148 43 [b0, b1, b2, some (.int x0)] st w = pm_ev 148 44 [b0, b1, b2, some (.int x0)] (.int x0 :: st) w := pm_ny pt_148 d148_43 rfl rfl rfl
theorem d148_44 : decode cX6_rank 44 = .ok (.iaload, 1) := by decide +kernel
theorem z148_44 {st : List Value} {w : pm_H} {pl : pm_L} {x0 : Nat} {x1 : Int32} : pm_ev 148 44 pl (.int x1 :: .ref x0 :: st) w = pm_kv 148 45 pl st w (pm_ia (w x0) 0 x1) := pm_nia pt_148 d148_44
theorem d148_45 : decode cX6_rank 45 = .ok (.goto 4, 3) := by decide +kernel
theorem z148_45 {st : List Value} {w : pm_H} {pl : pm_L} : pm_ev 148 45 pl st w = pm_ev 148 49 pl st w := pm_ny pt_148 d148_45 rfl rfl rfl
theorem d148_48 : decode cX6_rank 48 = .ok (.iconst (-1), 1) := by decide +kernel
theorem z148_48 {st : List Value} {w : pm_H} {pl : pm_L} : pm_ev 148 48 pl st w = pm_ev 148 49 pl (.int (-1) :: st) w := pm_ny pt_148 d148_48 rfl rfl rfl
theorem d148_49 : decode cX6_rank 49 = .ok (.ireturn, 1) := by decide +kernel
theorem z148_49 {w : pm_H} {pl : pm_L} {x0 : Int32} : pm_ev 148 49 pl [.int x0] w = some (some (.int x0), w) := pm_nr pt_148 d148_49 rfl
theorem d149_0 : decode cX6_without 0 = .ok (.aload_n 0, 1) := by decide +kernel
theorem z149_0 {st : List Value} {w : pm_H} {b1 b2 b3 : Option Value} {x0 : Nat} : pm_ev 149 0 [some (.ref x0), b1, b2, b3] st w = pm_ev 149 1 [some (.ref x0), b1, b2, b3] (.ref x0 :: st) w := pm_ny pt_149 d149_0 rfl rfl rfl
theorem d149_1 : decode cX6_without 1 = .ok (.iconst 0, 1) := by decide +kernel
theorem z149_1 {st : List Value} {w : pm_H} {pl : pm_L} : pm_ev 149 1 pl st w = pm_ev 149 2 pl (.int 0 :: st) w := pm_ny pt_149 d149_1 rfl rfl rfl
theorem d149_2 : decode cX6_without 2 = .ok (.putfield 1, 3) := by decide +kernel
theorem z149_2 {st : List Value} {w : pm_H} {pl : pm_L} {x0 : Nat} {x1 : Int32} : pm_ev 149 2 pl (.int x1 :: .ref x0 :: st) w = pm_kw 149 5 pl st (pm_pf w x0 (w x0) 6 0 0 (.int x1)) := pm_np pt_149 pt_F_6_1 d149_2
theorem d149_5 : decode cX6_without 5 = .ok (.iload_n 2, 1) := by decide +kernel
theorem z149_5 {st : List Value} {w : pm_H} {b0 b1 b3 : Option Value} {x0 : Int32} : pm_ev 149 5 [b0, b1, some (.int x0), b3] st w = pm_ev 149 6 [b0, b1, some (.int x0), b3] (.int x0 :: st) w := pm_ny pt_149 d149_5 rfl rfl rfl
theorem d149_6 : decode cX6_without 6 = .ok (.iload_n 3, 1) := by decide +kernel
theorem z149_6 {st : List Value} {w : pm_H} {b0 b1 b2 : Option Value} {x0 : Int32} : pm_ev 149 6 [b0, b1, b2, some (.int x0)] st w = pm_ev 149 7 [b0, b1, b2, some (.int x0)] (.int x0 :: st) w := pm_ny pt_149 d149_6 rfl rfl rfl
theorem d149_7 : decode cX6_without 7 = .ok (.invokestatic 217, 3) := by decide +kernel
theorem z149_7 {w : pm_H} {b0 b1 b2 b3 : Option Value} {x0 : Int32} {x1 : Int32} : pm_ev 149 7 [b0, b1, b2, b3] [.int x0, .int x1] w = pm_k 149 10 [b0, b1, b2, b3] [] (pm_call 133 [.int x1, .int x0] w) := pm_ns pt_149 pt_133 pt_M_6_217 (Or.inl rfl) d149_7 ⟨rfl, rfl⟩ ⟨⟨rfl, Nat.le_of_ble_eq_true rfl, Nat.le_of_ble_eq_true rfl, Nat.le_of_ble_eq_true rfl, Nat.le_of_ble_eq_true rfl⟩, rfl⟩
theorem d149_10 : decode cX6_without 10 = .ok (.ifCond .ne 8, 3) := by decide +kernel
theorem z149_10 {st : List Value} {w : pm_H} {pl : pm_L} {x0 : Int32} : pm_ev 149 10 pl (.int x0 :: st) w = if x0 = 0 then pm_ev 149 13 pl st w else pm_ev 149 18 pl st w := pm_nin (c := ¬ x0 = 0) pt_149 d149_10 rfl rfl rfl Iff.rfl
theorem d149_13 : decode cX6_without 13 = .ok (.aload_n 0, 1) := by decide +kernel
theorem z149_13 {st : List Value} {w : pm_H} {b1 b2 b3 : Option Value} {x0 : Nat} : pm_ev 149 13 [some (.ref x0), b1, b2, b3] st w = pm_ev 149 14 [some (.ref x0), b1, b2, b3] (.ref x0 :: st) w := pm_ny pt_149 d149_13 rfl rfl rfl
theorem d149_14 : decode cX6_without 14 = .ok (.invokevirtual 191, 3) := by decide +kernel
theorem z149_14 {w : pm_H} {b0 b1 b2 b3 : Option Value} {x0 : Nat} : pm_ev 149 14 [b0, b1, b2, b3] [.ref x0] w = pm_k 149 17 [b0, b1, b2, b3] [] (pm_vc (w x0) 6 (pm_call 126 [.ref x0] w)) := pm_nv pt_149 pt_126 pt_M_6_191 d149_14 ⟨rfl, rfl⟩ ⟨⟨rfl, Nat.le_of_ble_eq_true rfl, Nat.le_of_ble_eq_true rfl, Nat.le_of_ble_eq_true rfl, Nat.le_of_ble_eq_true rfl⟩, rfl⟩
theorem d149_17 : decode cX6_without 17 = .ok (.ireturn, 1) := by decide +kernel
theorem z149_17 {w : pm_H} {pl : pm_L} {x0 : Int32} : pm_ev 149 17 pl [.int x0] w = some (some (.int x0), w) := pm_nr pt_149 d149_17 rfl
theorem d149_18 : decode cX6_without 18 = .ok (.aload_n 0, 1) := by decide +kernel
theorem z149_18 {st : List Value} {w : pm_H} {b1 b2 b3 : Option Value} {x0 : Nat} : pm_ev 149 18 [some (.ref x0), b1, b2, b3] st w = pm_ev 149 19 [some (.ref x0), b1, b2, b3] (.ref x0 :: st) w := pm_ny pt_149 d149_18 rfl rfl rfl
theorem d149_19 : decode cX6_without 19 = .ok (.iload_n 1, 1) := by decide +kernel
theorem z149_19 {st : List Value} {w : pm_H} {b0 b2 b3 : Option Value} {x0 : Int32} : pm_ev 149 19 [b0, some (.int x0), b2, b3] st w = pm_ev 149 20 [b0, some (.int x0), b2, b3] (.int x0 :: st) w := pm_ny pt_149 d149_19 rfl rfl rfl
theorem d149_20 : decode cX6_without 20 = .ok (.invokevirtual 195, 3) := by decide +kernel
theorem z149_20 {w : pm_H} {b0 b1 b2 b3 : Option Value} {x0 : Int32} {x1 : Nat} : pm_ev 149 20 [b0, b1, b2, b3] [.int x0, .ref x1] w = pm_k 149 23 [b0, b1, b2, b3] [] (pm_vc (w x1) 6 (pm_call 129 [.ref x1, .int x0] w)) := pm_nv pt_149 pt_129 pt_M_6_195 d149_20 ⟨rfl, rfl⟩ ⟨⟨rfl, Nat.le_of_ble_eq_true rfl, Nat.le_of_ble_eq_true rfl, Nat.le_of_ble_eq_true rfl, Nat.le_of_ble_eq_true rfl⟩, rfl⟩
theorem d149_23 : decode cX6_without 23 = .ok (.ifCond .eq 13, 3) := by decide +kernel
theorem z149_23 {st : List Value} {w : pm_H} {pl : pm_L} {x0 : Int32} : pm_ev 149 23 pl (.int x0 :: st) w = if x0 = 0 then pm_ev 149 36 pl st w else pm_ev 149 26 pl st w := pm_nif pt_149 d149_23 rfl rfl rfl
theorem d149_26 : decode cX6_without 26 = .ok (.aload_n 0, 1) := by decide +kernel
theorem z149_26 {st : List Value} {w : pm_H} {b1 b2 b3 : Option Value} {x0 : Nat} : pm_ev 149 26 [some (.ref x0), b1, b2, b3] st w = pm_ev 149 27 [some (.ref x0), b1, b2, b3] (.ref x0 :: st) w := pm_ny pt_149 d149_26 rfl rfl rfl
theorem d149_27 : decode cX6_without 27 = .ok (.iload_n 2, 1) := by decide +kernel
theorem z149_27 {st : List Value} {w : pm_H} {b0 b1 b3 : Option Value} {x0 : Int32} : pm_ev 149 27 [b0, b1, some (.int x0), b3] st w = pm_ev 149 28 [b0, b1, some (.int x0), b3] (.int x0 :: st) w := pm_ny pt_149 d149_27 rfl rfl rfl
theorem d149_28 : decode cX6_without 28 = .ok (.iload_n 3, 1) := by decide +kernel
theorem z149_28 {st : List Value} {w : pm_H} {b0 b1 b2 : Option Value} {x0 : Int32} : pm_ev 149 28 [b0, b1, b2, some (.int x0)] st w = pm_ev 149 29 [b0, b1, b2, some (.int x0)] (.int x0 :: st) w := pm_ny pt_149 d149_28 rfl rfl rfl
theorem d149_29 : decode cX6_without 29 = .ok (.iload_n 1, 1) := by decide +kernel
theorem z149_29 {st : List Value} {w : pm_H} {b0 b2 b3 : Option Value} {x0 : Int32} : pm_ev 149 29 [b0, some (.int x0), b2, b3] st w = pm_ev 149 30 [b0, some (.int x0), b2, b3] (.int x0 :: st) w := pm_ny pt_149 d149_29 rfl rfl rfl
theorem d149_30 : decode cX6_without 30 = .ok (.invokevirtual 263, 3) := by decide +kernel
theorem z149_30 {w : pm_H} {b0 b1 b2 b3 : Option Value} {x0 : Int32} {x1 : Int32} {x2 : Int32} {x3 : Nat} : pm_ev 149 30 [b0, b1, b2, b3] [.int x0, .int x1, .int x2, .ref x3] w = pm_k 149 33 [b0, b1, b2, b3] [] (pm_vc (w x3) 6 (pm_call 143 [.ref x3, .int x2, .int x1, .int x0] w)) := pm_nv pt_149 pt_143 pt_M_6_263 d149_30 ⟨rfl, rfl⟩ ⟨⟨rfl, Nat.le_of_ble_eq_true rfl, Nat.le_of_ble_eq_true rfl, Nat.le_of_ble_eq_true rfl, Nat.le_of_ble_eq_true rfl⟩, rfl⟩
theorem d149_33 : decode cX6_without 33 = .ok (.goto 6, 3) := by decide +kernel
theorem z149_33 {st : List Value} {w : pm_H} {pl : pm_L} : pm_ev 149 33 pl st w = pm_ev 149 39 pl st w := pm_ny pt_149 d149_33 rfl rfl rfl
theorem d149_36 : decode cX6_without 36 = .ok (.ldc_w 266, 3) := by decide +kernel
theorem z149_36 {st : List Value} {w : pm_H} {pl : pm_L} : pm_ev 149 36 pl st w = pm_ev 149 39 pl (.int (-1000000000) :: st) w := pm_nkw pt_149 pt_K_6_266 rfl d149_36
theorem d149_39 : decode cX6_without 39 = .ok (.ireturn, 1) := by decide +kernel
theorem z149_39 {w : pm_H} {pl : pm_L} {x0 : Int32} : pm_ev 149 39 pl [.int x0] w = some (some (.int x0), w) := pm_nr pt_149 d149_39 rfl
theorem d150_0 : decode cX6_with 0 = .ok (.aload_n 0, 1) := by decide +kernel
theorem z150_0 {st : List Value} {w : pm_H} {b1 b2 b3 b4 b5 b6 b7 b8 : Option Value} {x0 : Nat} : pm_ev 150 0 [some (.ref x0), b1, b2, b3, b4, b5, b6, b7, b8] st w = pm_ev 150 1 [some (.ref x0), b1, b2, b3, b4, b5, b6, b7, b8] (.ref x0 :: st) w := pm_ny pt_150 d150_0 rfl rfl rfl
theorem d150_1 : decode cX6_with 1 = .ok (.iconst 0, 1) := by decide +kernel
theorem z150_1 {st : List Value} {w : pm_H} {pl : pm_L} : pm_ev 150 1 pl st w = pm_ev 150 2 pl (.int 0 :: st) w := pm_ny pt_150 d150_1 rfl rfl rfl
theorem d150_2 : decode cX6_with 2 = .ok (.putfield 1, 3) := by decide +kernel
theorem z150_2 {st : List Value} {w : pm_H} {pl : pm_L} {x0 : Nat} {x1 : Int32} : pm_ev 150 2 pl (.int x1 :: .ref x0 :: st) w = pm_kw 150 5 pl st (pm_pf w x0 (w x0) 6 0 0 (.int x1)) := pm_np pt_150 pt_F_6_1 d150_2
theorem d150_5 : decode cX6_with 5 = .ok (.iload_n 2, 1) := by decide +kernel
theorem z150_5 {st : List Value} {w : pm_H} {b0 b1 b3 b4 b5 b6 b7 b8 : Option Value} {x0 : Int32} : pm_ev 150 5 [b0, b1, some (.int x0), b3, b4, b5, b6, b7, b8] st w = pm_ev 150 6 [b0, b1, some (.int x0), b3, b4, b5, b6, b7, b8] (.int x0 :: st) w := pm_ny pt_150 d150_5 rfl rfl rfl
theorem d150_6 : decode cX6_with 6 = .ok (.iload_n 3, 1) := by decide +kernel
theorem z150_6 {st : List Value} {w : pm_H} {b0 b1 b2 b4 b5 b6 b7 b8 : Option Value} {x0 : Int32} : pm_ev 150 6 [b0, b1, b2, some (.int x0), b4, b5, b6, b7, b8] st w = pm_ev 150 7 [b0, b1, b2, some (.int x0), b4, b5, b6, b7, b8] (.int x0 :: st) w := pm_ny pt_150 d150_6 rfl rfl rfl
theorem d150_7 : decode cX6_with 7 = .ok (.invokestatic 217, 3) := by decide +kernel
theorem z150_7 {w : pm_H} {b0 b1 b2 b3 b4 b5 b6 b7 b8 : Option Value} {x0 : Int32} {x1 : Int32} : pm_ev 150 7 [b0, b1, b2, b3, b4, b5, b6, b7, b8] [.int x0, .int x1] w = pm_k 150 10 [b0, b1, b2, b3, b4, b5, b6, b7, b8] [] (pm_call 133 [.int x1, .int x0] w) := pm_ns pt_150 pt_133 pt_M_6_217 (Or.inl rfl) d150_7 ⟨rfl, rfl⟩ ⟨⟨rfl, Nat.le_of_ble_eq_true rfl, Nat.le_of_ble_eq_true rfl, Nat.le_of_ble_eq_true rfl, Nat.le_of_ble_eq_true rfl⟩, rfl⟩
theorem d150_10 : decode cX6_with 10 = .ok (.ifCond .ne 8, 3) := by decide +kernel
theorem z150_10 {st : List Value} {w : pm_H} {pl : pm_L} {x0 : Int32} : pm_ev 150 10 pl (.int x0 :: st) w = if x0 = 0 then pm_ev 150 13 pl st w else pm_ev 150 18 pl st w := pm_nin (c := ¬ x0 = 0) pt_150 d150_10 rfl rfl rfl Iff.rfl
theorem d150_13 : decode cX6_with 13 = .ok (.aload_n 0, 1) := by decide +kernel
theorem z150_13 {st : List Value} {w : pm_H} {b1 b2 b3 b4 b5 b6 b7 b8 : Option Value} {x0 : Nat} : pm_ev 150 13 [some (.ref x0), b1, b2, b3, b4, b5, b6, b7, b8] st w = pm_ev 150 14 [some (.ref x0), b1, b2, b3, b4, b5, b6, b7, b8] (.ref x0 :: st) w := pm_ny pt_150 d150_13 rfl rfl rfl
theorem d150_14 : decode cX6_with 14 = .ok (.invokevirtual 191, 3) := by decide +kernel
theorem z150_14 {w : pm_H} {b0 b1 b2 b3 b4 b5 b6 b7 b8 : Option Value} {x0 : Nat} : pm_ev 150 14 [b0, b1, b2, b3, b4, b5, b6, b7, b8] [.ref x0] w = pm_k 150 17 [b0, b1, b2, b3, b4, b5, b6, b7, b8] [] (pm_vc (w x0) 6 (pm_call 126 [.ref x0] w)) := pm_nv pt_150 pt_126 pt_M_6_191 d150_14 ⟨rfl, rfl⟩ ⟨⟨rfl, Nat.le_of_ble_eq_true rfl, Nat.le_of_ble_eq_true rfl, Nat.le_of_ble_eq_true rfl, Nat.le_of_ble_eq_true rfl⟩, rfl⟩
theorem d150_17 : decode cX6_with 17 = .ok (.ireturn, 1) := by decide +kernel
theorem z150_17 {w : pm_H} {pl : pm_L} {x0 : Int32} : pm_ev 150 17 pl [.int x0] w = some (some (.int x0), w) := pm_nr pt_150 d150_17 rfl
theorem d150_18 : decode cX6_with 18 = .ok (.iload_n 1, 1) := by decide +kernel
theorem z150_18 {st : List Value} {w : pm_H} {b0 b2 b3 b4 b5 b6 b7 b8 : Option Value} {x0 : Int32} : pm_ev 150 18 [b0, some (.int x0), b2, b3, b4, b5, b6, b7, b8] st w = pm_ev 150 19 [b0, some (.int x0), b2, b3, b4, b5, b6, b7, b8] (.int x0 :: st) w := pm_ny pt_150 d150_18 rfl rfl rfl
theorem d150_19 : decode cX6_with 19 = .ok (.ifCond .lt 16, 3) := by decide +kernel
theorem z150_19 {st : List Value} {w : pm_H} {pl : pm_L} {x0 : Int32} : pm_ev 150 19 pl (.int x0 :: st) w = if x0 < 0 then pm_ev 150 35 pl st w else pm_ev 150 22 pl st w := pm_nif pt_150 d150_19 rfl rfl rfl
theorem d150_22 : decode cX6_with 22 = .ok (.iload_n 1, 1) := by decide +kernel
theorem z150_22 {st : List Value} {w : pm_H} {b0 b2 b3 b4 b5 b6 b7 b8 : Option Value} {x0 : Int32} : pm_ev 150 22 [b0, some (.int x0), b2, b3, b4, b5, b6, b7, b8] st w = pm_ev 150 23 [b0, some (.int x0), b2, b3, b4, b5, b6, b7, b8] (.int x0 :: st) w := pm_ny pt_150 d150_22 rfl rfl rfl
theorem d150_23 : decode cX6_with 23 = .ok (.iconst 1, 1) := by decide +kernel
theorem z150_23 {st : List Value} {w : pm_H} {pl : pm_L} : pm_ev 150 23 pl st w = pm_ev 150 24 pl (.int 1 :: st) w := pm_ny pt_150 d150_23 rfl rfl rfl
theorem d150_24 : decode cX6_with 24 = .ok (.aload_n 0, 1) := by decide +kernel
theorem z150_24 {st : List Value} {w : pm_H} {b1 b2 b3 b4 b5 b6 b7 b8 : Option Value} {x0 : Nat} : pm_ev 150 24 [some (.ref x0), b1, b2, b3, b4, b5, b6, b7, b8] st w = pm_ev 150 25 [some (.ref x0), b1, b2, b3, b4, b5, b6, b7, b8] (.ref x0 :: st) w := pm_ny pt_150 d150_24 rfl rfl rfl
theorem d150_25 : decode cX6_with 25 = .ok (.getfield 84, 3) := by decide +kernel
theorem z150_25 {st : List Value} {w : pm_H} {pl : pm_L} {x0 : Nat} : pm_ev 150 25 pl (.ref x0 :: st) w = pm_kv 150 28 pl st w (pm_gf (w x0) 6 11) := pm_ng pt_150 pt_F_6_84 d150_25
theorem d150_28 : decode cX6_with 28 = .ok (.bipush 70, 2) := by decide +kernel
theorem z150_28 {st : List Value} {w : pm_H} {pl : pm_L} : pm_ev 150 28 pl st w = pm_ev 150 30 pl (.int 70 :: st) w := pm_ny pt_150 d150_28 rfl rfl rfl
theorem d150_30 : decode cX6_with 30 = .ok (.iaload, 1) := by decide +kernel
theorem z150_30 {st : List Value} {w : pm_H} {pl : pm_L} {x0 : Nat} {x1 : Int32} : pm_ev 150 30 pl (.int x1 :: .ref x0 :: st) w = pm_kv 150 31 pl st w (pm_ia (w x0) 0 x1) := pm_nia pt_150 d150_30
theorem d150_31 : decode cX6_with 31 = .ok (.ishl, 1) := by decide +kernel
theorem z150_31 {st : List Value} {w : pm_H} {pl : pm_L} {x0 x1 : Int32} : pm_ev 150 31 pl (.int x1 :: .int x0 :: st) w = pm_ev 150 32 pl (.int (x0 <<< (x1 &&& 31)) :: st) w := pm_ny pt_150 d150_31 rfl rfl rfl
theorem d150_32 : decode cX6_with 32 = .ok (.if_icmp .lt 7, 3) := by decide +kernel
theorem z150_32 {st : List Value} {w : pm_H} {pl : pm_L} {x0 x1 : Int32} : pm_ev 150 32 pl (.int x1 :: .int x0 :: st) w = if x0 < x1 then pm_ev 150 39 pl st w else pm_ev 150 35 pl st w := pm_nif pt_150 d150_32 rfl rfl rfl
theorem d150_35 : decode cX6_with 35 = .ok (.ldc_w 266, 3) := by decide +kernel
theorem z150_35 {st : List Value} {w : pm_H} {pl : pm_L} : pm_ev 150 35 pl st w = pm_ev 150 38 pl (.int (-1000000000) :: st) w := pm_nkw pt_150 pt_K_6_266 rfl d150_35
theorem d150_38 : decode cX6_with 38 = .ok (.ireturn, 1) := by decide +kernel
theorem z150_38 {w : pm_H} {pl : pm_L} {x0 : Int32} : pm_ev 150 38 pl [.int x0] w = some (some (.int x0), w) := pm_nr pt_150 d150_38 rfl
theorem d150_39 : decode cX6_with 39 = .ok (.aload_n 0, 1) := by decide +kernel
theorem z150_39 {st : List Value} {w : pm_H} {b1 b2 b3 b4 b5 b6 b7 b8 : Option Value} {x0 : Nat} : pm_ev 150 39 [some (.ref x0), b1, b2, b3, b4, b5, b6, b7, b8] st w = pm_ev 150 40 [some (.ref x0), b1, b2, b3, b4, b5, b6, b7, b8] (.ref x0 :: st) w := pm_ny pt_150 d150_39 rfl rfl rfl
theorem d150_40 : decode cX6_with 40 = .ok (.iload_n 2, 1) := by decide +kernel
theorem z150_40 {st : List Value} {w : pm_H} {b0 b1 b3 b4 b5 b6 b7 b8 : Option Value} {x0 : Int32} : pm_ev 150 40 [b0, b1, some (.int x0), b3, b4, b5, b6, b7, b8] st w = pm_ev 150 41 [b0, b1, some (.int x0), b3, b4, b5, b6, b7, b8] (.int x0 :: st) w := pm_ny pt_150 d150_40 rfl rfl rfl
theorem d150_41 : decode cX6_with 41 = .ok (.iload_n 3, 1) := by decide +kernel
theorem z150_41 {st : List Value} {w : pm_H} {b0 b1 b2 b4 b5 b6 b7 b8 : Option Value} {x0 : Int32} : pm_ev 150 41 [b0, b1, b2, some (.int x0), b4, b5, b6, b7, b8] st w = pm_ev 150 42 [b0, b1, b2, some (.int x0), b4, b5, b6, b7, b8] (.int x0 :: st) w := pm_ny pt_150 d150_41 rfl rfl rfl
theorem d150_42 : decode cX6_with 42 = .ok (.invokevirtual 221, 3) := by decide +kernel
theorem z150_42 {w : pm_H} {b0 b1 b2 b3 b4 b5 b6 b7 b8 : Option Value} {x0 : Int32} {x1 : Int32} {x2 : Nat} : pm_ev 150 42 [b0, b1, b2, b3, b4, b5, b6, b7, b8] [.int x0, .int x1, .ref x2] w = pm_k 150 45 [b0, b1, b2, b3, b4, b5, b6, b7, b8] [] (pm_vc (w x2) 6 (pm_call 134 [.ref x2, .int x1, .int x0] w)) := pm_nv pt_150 pt_134 pt_M_6_221 d150_42 ⟨rfl, rfl⟩ ⟨⟨rfl, Nat.le_of_ble_eq_true rfl, Nat.le_of_ble_eq_true rfl, Nat.le_of_ble_eq_true rfl, Nat.le_of_ble_eq_true rfl⟩, rfl⟩
theorem d150_45 : decode cX6_with 45 = .ok (.lstore 4, 2) := by decide +kernel
theorem z150_45 {st : List Value} {w : pm_H} {b0 b1 b2 b4 b5 b6 b7 b8 : Option Value} {x0 : Int64} {x9 : Int32} : pm_ev 150 45 [b0, b1, b2, some (.int x9), b4, b5, b6, b7, b8] (.long x0 :: st) w = pm_ev 150 47 [b0, b1, b2, some (.int x9), some (.long x0), none, b6, b7, b8] st w := pm_ny pt_150 d150_45 rfl rfl rfl
theorem d150_47 : decode cX6_with 47 = .ok (.aload_n 0, 1) := by decide +kernel
theorem z150_47 {st : List Value} {w : pm_H} {b1 b2 b3 b4 b5 b6 b7 b8 : Option Value} {x0 : Nat} : pm_ev 150 47 [some (.ref x0), b1, b2, b3, b4, b5, b6, b7, b8] st w = pm_ev 150 48 [some (.ref x0), b1, b2, b3, b4, b5, b6, b7, b8] (.ref x0 :: st) w := pm_ny pt_150 d150_47 rfl rfl rfl
theorem d150_48 : decode cX6_with 48 = .ok (.iload_n 2, 1) := by decide +kernel
theorem z150_48 {st : List Value} {w : pm_H} {b0 b1 b3 b4 b5 b6 b7 b8 : Option Value} {x0 : Int32} : pm_ev 150 48 [b0, b1, some (.int x0), b3, b4, b5, b6, b7, b8] st w = pm_ev 150 49 [b0, b1, some (.int x0), b3, b4, b5, b6, b7, b8] (.int x0 :: st) w := pm_ny pt_150 d150_48 rfl rfl rfl
theorem d150_49 : decode cX6_with 49 = .ok (.iload_n 3, 1) := by decide +kernel
theorem z150_49 {st : List Value} {w : pm_H} {b0 b1 b2 b4 b5 b6 b7 b8 : Option Value} {x0 : Int32} : pm_ev 150 49 [b0, b1, b2, some (.int x0), b4, b5, b6, b7, b8] st w = pm_ev 150 50 [b0, b1, b2, some (.int x0), b4, b5, b6, b7, b8] (.int x0 :: st) w := pm_ny pt_150 d150_49 rfl rfl rfl
theorem d150_50 : decode cX6_with 50 = .ok (.invokevirtual 212, 3) := by decide +kernel
theorem z150_50 {w : pm_H} {b0 b1 b2 b3 b4 b5 b6 b7 b8 : Option Value} {x0 : Int32} {x1 : Int32} {x2 : Nat} : pm_ev 150 50 [b0, b1, b2, b3, b4, b5, b6, b7, b8] [.int x0, .int x1, .ref x2] w = pm_k 150 53 [b0, b1, b2, b3, b4, b5, b6, b7, b8] [] (pm_vc (w x2) 6 (pm_call 141 [.ref x2, .int x1, .int x0] w)) := pm_nv pt_150 pt_141 pt_M_6_212 d150_50 ⟨rfl, rfl⟩ ⟨⟨rfl, Nat.le_of_ble_eq_true rfl, Nat.le_of_ble_eq_true rfl, Nat.le_of_ble_eq_true rfl, Nat.le_of_ble_eq_true rfl⟩, rfl⟩
theorem d150_53 : decode cX6_with 53 = .ok (.i2l, 1) := by decide +kernel
theorem z150_53 {st : List Value} {w : pm_H} {pl : pm_L} {x0 : Int32} : pm_ev 150 53 pl (.int x0 :: st) w = pm_ev 150 54 pl (.long x0.toInt64 :: st) w := pm_ny pt_150 d150_53 rfl rfl rfl
theorem d150_54 : decode cX6_with 54 = .ok (.lstore 6, 2) := by decide +kernel
theorem z150_54 {st : List Value} {w : pm_H} {b0 b1 b2 b3 b4 b6 b7 b8 : Option Value} {x0 : Int64} : pm_ev 150 54 [b0, b1, b2, b3, b4, none, b6, b7, b8] (.long x0 :: st) w = pm_ev 150 56 [b0, b1, b2, b3, b4, none, some (.long x0), none, b8] st w := pm_ny pt_150 d150_54 rfl rfl rfl
theorem d150_56 : decode cX6_with 56 = .ok (.iconst 0, 1) := by decide +kernel
theorem z150_56 {st : List Value} {w : pm_H} {pl : pm_L} : pm_ev 150 56 pl st w = pm_ev 150 57 pl (.int 0 :: st) w := pm_ny pt_150 d150_56 rfl rfl rfl
theorem d150_57 : decode cX6_with 57 = .ok (.istore 8, 2) := by decide +kernel
theorem z150_57 {st : List Value} {w : pm_H} {b0 b1 b2 b3 b4 b5 b6 b8 : Option Value} {x0 : Int32} : pm_ev 150 57 [b0, b1, b2, b3, b4, b5, b6, none, b8] (.int x0 :: st) w = pm_ev 150 59 [b0, b1, b2, b3, b4, b5, b6, none, some (.int x0)] st w := pm_ny pt_150 d150_57 rfl rfl rfl
theorem d150_59 : decode cX6_with 59 = .ok (.iload 8, 2) := by decide +kernel
theorem z150_59 {st : List Value} {w : pm_H} {b0 b1 b2 b3 b4 b5 b6 b7 : Option Value} {x0 : Int32} : pm_ev 150 59 [b0, b1, b2, b3, b4, b5, b6, b7, some (.int x0)] st w = pm_ev 150 61 [b0, b1, b2, b3, b4, b5, b6, b7, some (.int x0)] (.int x0 :: st) w := pm_ny pt_150 d150_59 rfl rfl rfl
theorem d150_61 : decode cX6_with 61 = .ok (.aload_n 0, 1) := by decide +kernel
theorem z150_61 {st : List Value} {w : pm_H} {b1 b2 b3 b4 b5 b6 b7 b8 : Option Value} {x0 : Nat} : pm_ev 150 61 [some (.ref x0), b1, b2, b3, b4, b5, b6, b7, b8] st w = pm_ev 150 62 [some (.ref x0), b1, b2, b3, b4, b5, b6, b7, b8] (.ref x0 :: st) w := pm_ny pt_150 d150_61 rfl rfl rfl
theorem d150_62 : decode cX6_with 62 = .ok (.getfield 84, 3) := by decide +kernel
theorem z150_62 {st : List Value} {w : pm_H} {pl : pm_L} {x0 : Nat} : pm_ev 150 62 pl (.ref x0 :: st) w = pm_kv 150 65 pl st w (pm_gf (w x0) 6 11) := pm_ng pt_150 pt_F_6_84 d150_62
theorem d150_65 : decode cX6_with 65 = .ok (.bipush 70, 2) := by decide +kernel
theorem z150_65 {st : List Value} {w : pm_H} {pl : pm_L} : pm_ev 150 65 pl st w = pm_ev 150 67 pl (.int 70 :: st) w := pm_ny pt_150 d150_65 rfl rfl rfl
theorem d150_67 : decode cX6_with 67 = .ok (.iaload, 1) := by decide +kernel
theorem z150_67 {st : List Value} {w : pm_H} {pl : pm_L} {x0 : Nat} {x1 : Int32} : pm_ev 150 67 pl (.int x1 :: .ref x0 :: st) w = pm_kv 150 68 pl st w (pm_ia (w x0) 0 x1) := pm_nia pt_150 d150_67
theorem d150_68 : decode cX6_with 68 = .ok (.if_icmp .ge 47, 3) := by decide +kernel
theorem z150_68 {st : List Value} {w : pm_H} {pl : pm_L} {x0 x1 : Int32} : pm_ev 150 68 pl (.int x1 :: .int x0 :: st) w = if x0 < x1 then pm_ev 150 71 pl st w else pm_ev 150 115 pl st w := pm_nin (c := x1 ≤ x0) pt_150 d150_68 rfl rfl rfl pm_ge
theorem d150_71 : decode cX6_with 71 = .ok (.iload_n 1, 1) := by decide +kernel
theorem z150_71 {st : List Value} {w : pm_H} {b0 b2 b3 b4 b5 b6 b7 b8 : Option Value} {x0 : Int32} : pm_ev 150 71 [b0, some (.int x0), b2, b3, b4, b5, b6, b7, b8] st w = pm_ev 150 72 [b0, some (.int x0), b2, b3, b4, b5, b6, b7, b8] (.int x0 :: st) w := pm_ny pt_150 d150_71 rfl rfl rfl
theorem d150_72 : decode cX6_with 72 = .ok (.iload 8, 2) := by decide +kernel
theorem z150_72 {st : List Value} {w : pm_H} {b0 b1 b2 b3 b4 b5 b6 b7 : Option Value} {x0 : Int32} : pm_ev 150 72 [b0, b1, b2, b3, b4, b5, b6, b7, some (.int x0)] st w = pm_ev 150 74 [b0, b1, b2, b3, b4, b5, b6, b7, some (.int x0)] (.int x0 :: st) w := pm_ny pt_150 d150_72 rfl rfl rfl
theorem d150_74 : decode cX6_with 74 = .ok (.invokestatic 267, 3) := by decide +kernel
theorem z150_74 {w : pm_H} {b0 b1 b2 b3 b4 b5 b6 b7 b8 : Option Value} {x0 : Int32} {x1 : Int32} : pm_ev 150 74 [b0, b1, b2, b3, b4, b5, b6, b7, b8] [.int x0, .int x1] w = pm_k 150 77 [b0, b1, b2, b3, b4, b5, b6, b7, b8] [] (pm_call 151 [.int x1, .int x0] w) := pm_ns pt_150 pt_151 pt_M_6_267 (Or.inl rfl) d150_74 ⟨rfl, rfl⟩ ⟨⟨rfl, Nat.le_of_ble_eq_true rfl, Nat.le_of_ble_eq_true rfl, Nat.le_of_ble_eq_true rfl, Nat.le_of_ble_eq_true rfl⟩, rfl⟩
theorem d150_77 : decode cX6_with 77 = .ok (.ifCond .ne 6, 3) := by decide +kernel
theorem z150_77 {st : List Value} {w : pm_H} {pl : pm_L} {x0 : Int32} : pm_ev 150 77 pl (.int x0 :: st) w = if x0 = 0 then pm_ev 150 80 pl st w else pm_ev 150 83 pl st w := pm_nin (c := ¬ x0 = 0) pt_150 d150_77 rfl rfl rfl Iff.rfl
theorem d150_80 : decode cX6_with 80 = .ok (.goto 29, 3) := by decide +kernel
theorem z150_80 {st : List Value} {w : pm_H} {pl : pm_L} : pm_ev 150 80 pl st w = pm_ev 150 109 pl st w := pm_ny pt_150 d150_80 rfl rfl rfl
theorem d150_83 : decode cX6_with 83 = .ok (.lload 4, 2) := by decide +kernel
theorem z150_83 {st : List Value} {w : pm_H} {b0 b1 b2 b3 b5 b6 b7 b8 : Option Value} {x0 : Int64} : pm_ev 150 83 [b0, b1, b2, b3, some (.long x0), b5, b6, b7, b8] st w = pm_ev 150 85 [b0, b1, b2, b3, some (.long x0), b5, b6, b7, b8] (.long x0 :: st) w := pm_ny pt_150 d150_83 rfl rfl rfl
theorem d150_85 : decode cX6_with 85 = .ok (.aload_n 0, 1) := by decide +kernel
theorem z150_85 {st : List Value} {w : pm_H} {b1 b2 b3 b4 b5 b6 b7 b8 : Option Value} {x0 : Nat} : pm_ev 150 85 [some (.ref x0), b1, b2, b3, b4, b5, b6, b7, b8] st w = pm_ev 150 86 [some (.ref x0), b1, b2, b3, b4, b5, b6, b7, b8] (.ref x0 :: st) w := pm_ny pt_150 d150_85 rfl rfl rfl
theorem d150_86 : decode cX6_with 86 = .ok (.iload 8, 2) := by decide +kernel
theorem z150_86 {st : List Value} {w : pm_H} {b0 b1 b2 b3 b4 b5 b6 b7 : Option Value} {x0 : Int32} : pm_ev 150 86 [b0, b1, b2, b3, b4, b5, b6, b7, some (.int x0)] st w = pm_ev 150 88 [b0, b1, b2, b3, b4, b5, b6, b7, some (.int x0)] (.int x0 :: st) w := pm_ny pt_150 d150_86 rfl rfl rfl
theorem d150_88 : decode cX6_with 88 = .ok (.iload_n 2, 1) := by decide +kernel
theorem z150_88 {st : List Value} {w : pm_H} {b0 b1 b3 b4 b5 b6 b7 b8 : Option Value} {x0 : Int32} : pm_ev 150 88 [b0, b1, some (.int x0), b3, b4, b5, b6, b7, b8] st w = pm_ev 150 89 [b0, b1, some (.int x0), b3, b4, b5, b6, b7, b8] (.int x0 :: st) w := pm_ny pt_150 d150_88 rfl rfl rfl
theorem d150_89 : decode cX6_with 89 = .ok (.iload_n 3, 1) := by decide +kernel
theorem z150_89 {st : List Value} {w : pm_H} {b0 b1 b2 b4 b5 b6 b7 b8 : Option Value} {x0 : Int32} : pm_ev 150 89 [b0, b1, b2, some (.int x0), b4, b5, b6, b7, b8] st w = pm_ev 150 90 [b0, b1, b2, some (.int x0), b4, b5, b6, b7, b8] (.int x0 :: st) w := pm_ny pt_150 d150_89 rfl rfl rfl
theorem d150_90 : decode cX6_with 90 = .ok (.invokevirtual 227, 3) := by decide +kernel
theorem z150_90 {w : pm_H} {b0 b1 b2 b3 b4 b5 b6 b7 b8 : Option Value} {x0 : Int32} {x1 : Int32} {x2 : Int32} {x3 : Nat} {x4 : Int64} : pm_ev 150 90 [b0, b1, b2, b3, b4, b5, b6, b7, b8] [.int x0, .int x1, .int x2, .ref x3, .long x4] w = pm_k 150 93 [b0, b1, b2, b3, b4, b5, b6, b7, b8] [.long x4] (pm_vc (w x3) 6 (pm_call 138 [.ref x3, .int x2, .int x1, .int x0] w)) := pm_nv pt_150 pt_138 pt_M_6_227 d150_90 ⟨rfl, rfl⟩ ⟨⟨rfl, Nat.le_of_ble_eq_true rfl, Nat.le_of_ble_eq_true rfl, Nat.le_of_ble_eq_true rfl, Nat.le_of_ble_eq_true rfl⟩, rfl⟩
theorem d150_93 : decode cX6_with 93 = .ok (.ladd, 1) := by decide +kernel
theorem z150_93 {st : List Value} {w : pm_H} {pl : pm_L} {x0 x1 : Int64} : pm_ev 150 93 pl (.long x1 :: .long x0 :: st) w = pm_ev 150 94 pl (.long (x0 + x1) :: st) w := pm_ny pt_150 d150_93 rfl rfl rfl
theorem d150_94 : decode cX6_with 94 = .ok (.lstore 4, 2) := by decide +kernel
theorem z150_94 {st : List Value} {w : pm_H} {b0 b1 b2 b4 b5 b6 b7 b8 : Option Value} {x0 : Int64} {x9 : Int32} : pm_ev 150 94 [b0, b1, b2, some (.int x9), b4, b5, b6, b7, b8] (.long x0 :: st) w = pm_ev 150 96 [b0, b1, b2, some (.int x9), some (.long x0), none, b6, b7, b8] st w := pm_ny pt_150 d150_94 rfl rfl rfl
theorem d150_96 : decode cX6_with 96 = .ok (.lload 6, 2) := by decide +kernel
theorem z150_96 {st : List Value} {w : pm_H} {b0 b1 b2 b3 b4 b5 b7 b8 : Option Value} {x0 : Int64} : pm_ev 150 96 [b0, b1, b2, b3, b4, b5, some (.long x0), b7, b8] st w = pm_ev 150 98 [b0, b1, b2, b3, b4, b5, some (.long x0), b7, b8] (.long x0 :: st) w := pm_ny pt_150 d150_96 rfl rfl rfl
theorem d150_98 : decode cX6_with 98 = .ok (.aload_n 0, 1) := by decide +kernel
theorem z150_98 {st : List Value} {w : pm_H} {b1 b2 b3 b4 b5 b6 b7 b8 : Option Value} {x0 : Nat} : pm_ev 150 98 [some (.ref x0), b1, b2, b3, b4, b5, b6, b7, b8] st w = pm_ev 150 99 [some (.ref x0), b1, b2, b3, b4, b5, b6, b7, b8] (.ref x0 :: st) w := pm_ny pt_150 d150_98 rfl rfl rfl
theorem d150_99 : decode cX6_with 99 = .ok (.iload 8, 2) := by decide +kernel
theorem z150_99 {st : List Value} {w : pm_H} {b0 b1 b2 b3 b4 b5 b6 b7 : Option Value} {x0 : Int32} : pm_ev 150 99 [b0, b1, b2, b3, b4, b5, b6, b7, some (.int x0)] st w = pm_ev 150 101 [b0, b1, b2, b3, b4, b5, b6, b7, some (.int x0)] (.int x0 :: st) w := pm_ny pt_150 d150_99 rfl rfl rfl
theorem d150_101 : decode cX6_with 101 = .ok (.iload_n 2, 1) := by decide +kernel
theorem z150_101 {st : List Value} {w : pm_H} {b0 b1 b3 b4 b5 b6 b7 b8 : Option Value} {x0 : Int32} : pm_ev 150 101 [b0, b1, some (.int x0), b3, b4, b5, b6, b7, b8] st w = pm_ev 150 102 [b0, b1, some (.int x0), b3, b4, b5, b6, b7, b8] (.int x0 :: st) w := pm_ny pt_150 d150_101 rfl rfl rfl
theorem d150_102 : decode cX6_with 102 = .ok (.iload_n 3, 1) := by decide +kernel
theorem z150_102 {st : List Value} {w : pm_H} {b0 b1 b2 b4 b5 b6 b7 b8 : Option Value} {x0 : Int32} : pm_ev 150 102 [b0, b1, b2, some (.int x0), b4, b5, b6, b7, b8] st w = pm_ev 150 103 [b0, b1, b2, some (.int x0), b4, b5, b6, b7, b8] (.int x0 :: st) w := pm_ny pt_150 d150_102 rfl rfl rfl
theorem d150_103 : decode cX6_with 103 = .ok (.invokevirtual 224, 3) := by decide +kernel
theorem z150_103 {w : pm_H} {b0 b1 b2 b3 b4 b5 b6 b7 b8 : Option Value} {x0 : Int32} {x1 : Int32} {x2 : Int32} {x3 : Nat} {x4 : Int64} : pm_ev 150 103 [b0, b1, b2, b3, b4, b5, b6, b7, b8] [.int x0, .int x1, .int x2, .ref x3, .long x4] w = pm_k 150 106 [b0, b1, b2, b3, b4, b5, b6, b7, b8] [.long x4] (pm_vc (w x3) 6 (pm_call 136 [.ref x3, .int x2, .int x1, .int x0] w)) := pm_nv pt_150 pt_136 pt_M_6_224 d150_103 ⟨rfl, rfl⟩ ⟨⟨rfl, Nat.le_of_ble_eq_true rfl, Nat.le_of_ble_eq_true rfl, Nat.le_of_ble_eq_true rfl, Nat.le_of_ble_eq_true rfl⟩, rfl⟩
theorem d150_106 : decode cX6_with 106 = .ok (.ladd, 1) := by decide +kernel
theorem z150_106 {st : List Value} {w : pm_H} {pl : pm_L} {x0 x1 : Int64} : pm_ev 150 106 pl (.long x1 :: .long x0 :: st) w = pm_ev 150 107 pl (.long (x0 + x1) :: st) w := pm_ny pt_150 d150_106 rfl rfl rfl
theorem d150_107 : decode cX6_with 107 = .ok (.lstore 6, 2) := by decide +kernel
theorem z150_107 {st : List Value} {w : pm_H} {b0 b1 b2 b3 b4 b6 b7 b8 : Option Value} {x0 : Int64} : pm_ev 150 107 [b0, b1, b2, b3, b4, none, b6, b7, b8] (.long x0 :: st) w = pm_ev 150 109 [b0, b1, b2, b3, b4, none, some (.long x0), none, b8] st w := pm_ny pt_150 d150_107 rfl rfl rfl
theorem d150_109 : decode cX6_with 109 = .ok (.iinc 8 1, 3) := by decide +kernel
theorem z150_109 {st : List Value} {w : pm_H} {b0 b1 b2 b3 b4 b5 b6 : Option Value} {x0 : Int32} : pm_ev 150 109 [b0, b1, b2, b3, b4, b5, b6, none, some (.int x0)] st w = pm_ev 150 112 [b0, b1, b2, b3, b4, b5, b6, none, some (.int (x0 + 1))] st w := pm_ny pt_150 d150_109 rfl rfl rfl
theorem d150_112 : decode cX6_with 112 = .ok (.goto (-53), 3) := by decide +kernel
theorem z150_112 {st : List Value} {w : pm_H} {pl : pm_L} : pm_ev 150 112 pl st w = pm_ev 150 59 pl st w := pm_ny pt_150 d150_112 rfl rfl rfl
theorem d150_115 : decode cX6_with 115 = .ok (.lload 6, 2) := by decide +kernel
theorem z150_115 {st : List Value} {w : pm_H} {b0 b1 b2 b3 b4 b5 b7 b8 : Option Value} {x0 : Int64} : pm_ev 150 115 [b0, b1, b2, b3, b4, b5, some (.long x0), b7, b8] st w = pm_ev 150 117 [b0, b1, b2, b3, b4, b5, some (.long x0), b7, b8] (.long x0 :: st) w := pm_ny pt_150 d150_115 rfl rfl rfl
theorem d150_117 : decode cX6_with 117 = .ok (.lload 4, 2) := by decide +kernel
theorem z150_117 {st : List Value} {w : pm_H} {b0 b1 b2 b3 b5 b6 b7 b8 : Option Value} {x0 : Int64} : pm_ev 150 117 [b0, b1, b2, b3, some (.long x0), b5, b6, b7, b8] st w = pm_ev 150 119 [b0, b1, b2, b3, some (.long x0), b5, b6, b7, b8] (.long x0 :: st) w := pm_ny pt_150 d150_117 rfl rfl rfl
theorem d150_119 : decode cX6_with 119 = .ok (.iload_n 2, 1) := by decide +kernel
theorem z150_119 {st : List Value} {w : pm_H} {b0 b1 b3 b4 b5 b6 b7 b8 : Option Value} {x0 : Int32} : pm_ev 150 119 [b0, b1, some (.int x0), b3, b4, b5, b6, b7, b8] st w = pm_ev 150 120 [b0, b1, some (.int x0), b3, b4, b5, b6, b7, b8] (.int x0 :: st) w := pm_ny pt_150 d150_119 rfl rfl rfl
theorem d150_120 : decode cX6_with 120 = .ok (.iload_n 3, 1) := by decide +kernel
theorem z150_120 {st : List Value} {w : pm_H} {b0 b1 b2 b4 b5 b6 b7 b8 : Option Value} {x0 : Int32} : pm_ev 150 120 [b0, b1, b2, some (.int x0), b4, b5, b6, b7, b8] st w = pm_ev 150 121 [b0, b1, b2, some (.int x0), b4, b5, b6, b7, b8] (.int x0 :: st) w := pm_ny pt_150 d150_120 rfl rfl rfl
theorem d150_121 : decode cX6_with 121 = .ok (.invokestatic 259, 3) := by decide +kernel
theorem z150_121 {w : pm_H} {b0 b1 b2 b3 b4 b5 b6 b7 b8 : Option Value} {x0 : Int32} {x1 : Int32} {x2 : Int64} {x3 : Int64} : pm_ev 150 121 [b0, b1, b2, b3, b4, b5, b6, b7, b8] [.int x0, .int x1, .long x2, .long x3] w = pm_k 150 124 [b0, b1, b2, b3, b4, b5, b6, b7, b8] [] (pm_call 147 [.long x3, .long x2, .int x1, .int x0] w) := pm_ns pt_150 pt_147 pt_M_6_259 (Or.inl rfl) d150_121 ⟨rfl, rfl⟩ ⟨⟨rfl, Nat.le_of_ble_eq_true rfl, Nat.le_of_ble_eq_true rfl, Nat.le_of_ble_eq_true rfl, Nat.le_of_ble_eq_true rfl⟩, rfl⟩
theorem d150_124 : decode cX6_with 124 = .ok (.ireturn, 1) := by decide +kernel
theorem z150_124 {w : pm_H} {pl : pm_L} {x0 : Int32} : pm_ev 150 124 pl [.int x0] w = some (some (.int x0), w) := pm_nr pt_150 d150_124 rfl
theorem d151_0 : decode cX6_has 0 = .ok (.iload_n 0, 1) := by decide +kernel
theorem z151_0 {st : List Value} {w : pm_H} {b1 : Option Value} {x0 : Int32} : pm_ev 151 0 [some (.int x0), b1] st w = pm_ev 151 1 [some (.int x0), b1] (.int x0 :: st) w := pm_ny pt_151 d151_0 rfl rfl rfl
theorem d151_1 : decode cX6_has 1 = .ok (.iload_n 1, 1) := by decide +kernel
theorem z151_1 {st : List Value} {w : pm_H} {b0 : Option Value} {x0 : Int32} : pm_ev 151 1 [b0, some (.int x0)] st w = pm_ev 151 2 [b0, some (.int x0)] (.int x0 :: st) w := pm_ny pt_151 d151_1 rfl rfl rfl
theorem d151_2 : decode cX6_has 2 = .ok (.ishr, 1) := by decide +kernel
theorem z151_2 {st : List Value} {w : pm_H} {pl : pm_L} {x0 x1 : Int32} : pm_ev 151 2 pl (.int x1 :: .int x0 :: st) w = pm_ev 151 3 pl (.int (x0 >>> (x1 &&& 31)) :: st) w := pm_ny pt_151 d151_2 rfl rfl rfl
theorem d151_3 : decode cX6_has 3 = .ok (.iconst 1, 1) := by decide +kernel
theorem z151_3 {st : List Value} {w : pm_H} {pl : pm_L} : pm_ev 151 3 pl st w = pm_ev 151 4 pl (.int 1 :: st) w := pm_ny pt_151 d151_3 rfl rfl rfl
theorem d151_4 : decode cX6_has 4 = .ok (.iand, 1) := by decide +kernel
theorem z151_4 {st : List Value} {w : pm_H} {pl : pm_L} {x0 x1 : Int32} : pm_ev 151 4 pl (.int x1 :: .int x0 :: st) w = pm_ev 151 5 pl (.int (x0 &&& x1) :: st) w := pm_ny pt_151 d151_4 rfl rfl rfl
theorem d151_5 : decode cX6_has 5 = .ok (.iconst 1, 1) := by decide +kernel
theorem z151_5 {st : List Value} {w : pm_H} {pl : pm_L} : pm_ev 151 5 pl st w = pm_ev 151 6 pl (.int 1 :: st) w := pm_ny pt_151 d151_5 rfl rfl rfl
theorem d151_6 : decode cX6_has 6 = .ok (.if_icmp .ne 7, 3) := by decide +kernel
theorem z151_6 {st : List Value} {w : pm_H} {pl : pm_L} {x0 x1 : Int32} : pm_ev 151 6 pl (.int x1 :: .int x0 :: st) w = if x0 = x1 then pm_ev 151 9 pl st w else pm_ev 151 13 pl st w := pm_nin (c := ¬ x0 = x1) pt_151 d151_6 rfl rfl rfl Iff.rfl
theorem d151_9 : decode cX6_has 9 = .ok (.iconst 1, 1) := by decide +kernel
theorem z151_9 {st : List Value} {w : pm_H} {pl : pm_L} : pm_ev 151 9 pl st w = pm_ev 151 10 pl (.int 1 :: st) w := pm_ny pt_151 d151_9 rfl rfl rfl
theorem d151_10 : decode cX6_has 10 = .ok (.goto 4, 3) := by decide +kernel
theorem z151_10 {st : List Value} {w : pm_H} {pl : pm_L} : pm_ev 151 10 pl st w = pm_ev 151 14 pl st w := pm_ny pt_151 d151_10 rfl rfl rfl
theorem d151_13 : decode cX6_has 13 = .ok (.iconst 0, 1) := by decide +kernel
theorem z151_13 {st : List Value} {w : pm_H} {pl : pm_L} : pm_ev 151 13 pl st w = pm_ev 151 14 pl (.int 0 :: st) w := pm_ny pt_151 d151_13 rfl rfl rfl
theorem d151_14 : decode cX6_has 14 = .ok (.ireturn, 1) := by decide +kernel
theorem z151_14 {w : pm_H} {pl : pm_L} {x0 : Int32} : pm_ev 151 14 pl [.int x0] w = pm_zr x0 w := pm_nz pt_151 d151_14
theorem d152_0 : decode cX6_priced 0 = .ok (.aload_n 0, 1) := by decide +kernel
theorem z152_0 {st : List Value} {w : pm_H} {b1 b2 b3 b4 : Option Value} {x0 : Nat} : pm_ev 152 0 [some (.ref x0), b1, b2, b3, b4] st w = pm_ev 152 1 [some (.ref x0), b1, b2, b3, b4] (.ref x0 :: st) w := pm_ny pt_152 d152_0 rfl rfl rfl
theorem d152_1 : decode cX6_priced 1 = .ok (.iconst 0, 1) := by decide +kernel
theorem z152_1 {st : List Value} {w : pm_H} {pl : pm_L} : pm_ev 152 1 pl st w = pm_ev 152 2 pl (.int 0 :: st) w := pm_ny pt_152 d152_1 rfl rfl rfl
theorem d152_2 : decode cX6_priced 2 = .ok (.putfield 1, 3) := by decide +kernel
theorem z152_2 {st : List Value} {w : pm_H} {pl : pm_L} {x0 : Nat} {x1 : Int32} : pm_ev 152 2 pl (.int x1 :: .ref x0 :: st) w = pm_kw 152 5 pl st (pm_pf w x0 (w x0) 6 0 0 (.int x1)) := pm_np pt_152 pt_F_6_1 d152_2
theorem d152_5 : decode cX6_priced 5 = .ok (.iload_n 3, 1) := by decide +kernel
theorem z152_5 {st : List Value} {w : pm_H} {b0 b1 b2 b4 : Option Value} {x0 : Int32} : pm_ev 152 5 [b0, b1, b2, some (.int x0), b4] st w = pm_ev 152 6 [b0, b1, b2, some (.int x0), b4] (.int x0 :: st) w := pm_ny pt_152 d152_5 rfl rfl rfl
theorem d152_6 : decode cX6_priced 6 = .ok (.iload 4, 2) := by decide +kernel
theorem z152_6 {st : List Value} {w : pm_H} {b0 b1 b2 b3 : Option Value} {x0 : Int32} : pm_ev 152 6 [b0, b1, b2, b3, some (.int x0)] st w = pm_ev 152 8 [b0, b1, b2, b3, some (.int x0)] (.int x0 :: st) w := pm_ny pt_152 d152_6 rfl rfl rfl
theorem d152_8 : decode cX6_priced 8 = .ok (.invokestatic 217, 3) := by decide +kernel
theorem z152_8 {w : pm_H} {b0 b1 b2 b3 b4 : Option Value} {x0 : Int32} {x1 : Int32} : pm_ev 152 8 [b0, b1, b2, b3, b4] [.int x0, .int x1] w = pm_k 152 11 [b0, b1, b2, b3, b4] [] (pm_call 133 [.int x1, .int x0] w) := pm_ns pt_152 pt_133 pt_M_6_217 (Or.inl rfl) d152_8 ⟨rfl, rfl⟩ ⟨⟨rfl, Nat.le_of_ble_eq_true rfl, Nat.le_of_ble_eq_true rfl, Nat.le_of_ble_eq_true rfl, Nat.le_of_ble_eq_true rfl⟩, rfl⟩
theorem d152_11 : decode cX6_priced 11 = .ok (.ifCond .ne 8, 3) := by decide +kernel
theorem z152_11 {st : List Value} {w : pm_H} {pl : pm_L} {x0 : Int32} : pm_ev 152 11 pl (.int x0 :: st) w = if x0 = 0 then pm_ev 152 14 pl st w else pm_ev 152 19 pl st w := pm_nin (c := ¬ x0 = 0) pt_152 d152_11 rfl rfl rfl Iff.rfl
theorem d152_14 : decode cX6_priced 14 = .ok (.aload_n 0, 1) := by decide +kernel
theorem z152_14 {st : List Value} {w : pm_H} {b1 b2 b3 b4 : Option Value} {x0 : Nat} : pm_ev 152 14 [some (.ref x0), b1, b2, b3, b4] st w = pm_ev 152 15 [some (.ref x0), b1, b2, b3, b4] (.ref x0 :: st) w := pm_ny pt_152 d152_14 rfl rfl rfl
theorem d152_15 : decode cX6_priced 15 = .ok (.invokevirtual 191, 3) := by decide +kernel
theorem z152_15 {w : pm_H} {b0 b1 b2 b3 b4 : Option Value} {x0 : Nat} : pm_ev 152 15 [b0, b1, b2, b3, b4] [.ref x0] w = pm_k 152 18 [b0, b1, b2, b3, b4] [] (pm_vc (w x0) 6 (pm_call 126 [.ref x0] w)) := pm_nv pt_152 pt_126 pt_M_6_191 d152_15 ⟨rfl, rfl⟩ ⟨⟨rfl, Nat.le_of_ble_eq_true rfl, Nat.le_of_ble_eq_true rfl, Nat.le_of_ble_eq_true rfl, Nat.le_of_ble_eq_true rfl⟩, rfl⟩
theorem d152_18 : decode cX6_priced 18 = .ok (.ireturn, 1) := by decide +kernel
theorem z152_18 {w : pm_H} {pl : pm_L} {x0 : Int32} : pm_ev 152 18 pl [.int x0] w = some (some (.int x0), w) := pm_nr pt_152 d152_18 rfl
theorem d152_19 : decode cX6_priced 19 = .ok (.iload_n 1, 1) := by decide +kernel
theorem z152_19 {st : List Value} {w : pm_H} {b0 b2 b3 b4 : Option Value} {x0 : Int32} : pm_ev 152 19 [b0, some (.int x0), b2, b3, b4] st w = pm_ev 152 20 [b0, some (.int x0), b2, b3, b4] (.int x0 :: st) w := pm_ny pt_152 d152_19 rfl rfl rfl
theorem d152_20 : decode cX6_priced 20 = .ok (.invokestatic 188, 3) := by decide +kernel
theorem z152_20 {w : pm_H} {b0 b1 b2 b3 b4 : Option Value} {x0 : Int32} : pm_ev 152 20 [b0, b1, b2, b3, b4] [.int x0] w = pm_k 152 23 [b0, b1, b2, b3, b4] [] (pm_call 125 [.int x0] w) := pm_ns pt_152 pt_125 pt_M_6_188 (Or.inl rfl) d152_20 ⟨rfl, rfl⟩ ⟨⟨rfl, Nat.le_of_ble_eq_true rfl, Nat.le_of_ble_eq_true rfl, Nat.le_of_ble_eq_true rfl, Nat.le_of_ble_eq_true rfl⟩, rfl⟩
theorem d152_23 : decode cX6_priced 23 = .ok (.ifCond .eq 32, 3) := by decide +kernel
theorem z152_23 {st : List Value} {w : pm_H} {pl : pm_L} {x0 : Int32} : pm_ev 152 23 pl (.int x0 :: st) w = if x0 = 0 then pm_ev 152 55 pl st w else pm_ev 152 26 pl st w := pm_nif pt_152 d152_23 rfl rfl rfl
theorem d152_26 : decode cX6_priced 26 = .ok (.iload_n 2, 1) := by decide +kernel
theorem z152_26 {st : List Value} {w : pm_H} {b0 b1 b3 b4 : Option Value} {x0 : Int32} : pm_ev 152 26 [b0, b1, some (.int x0), b3, b4] st w = pm_ev 152 27 [b0, b1, some (.int x0), b3, b4] (.int x0 :: st) w := pm_ny pt_152 d152_26 rfl rfl rfl
theorem d152_27 : decode cX6_priced 27 = .ok (.iconst 1, 1) := by decide +kernel
theorem z152_27 {st : List Value} {w : pm_H} {pl : pm_L} : pm_ev 152 27 pl st w = pm_ev 152 28 pl (.int 1 :: st) w := pm_ny pt_152 d152_27 rfl rfl rfl
theorem d152_28 : decode cX6_priced 28 = .ok (.sipush 9999, 3) := by decide +kernel
theorem z152_28 {st : List Value} {w : pm_H} {pl : pm_L} : pm_ev 152 28 pl st w = pm_ev 152 31 pl (.int 9999 :: st) w := pm_ny pt_152 d152_28 rfl rfl rfl
theorem d152_31 : decode cX6_priced 31 = .ok (.invokestatic 110, 3) := by decide +kernel
theorem z152_31 {w : pm_H} {b0 b1 b2 b3 b4 : Option Value} {x0 : Int32} {x1 : Int32} {x2 : Int32} : pm_ev 152 31 [b0, b1, b2, b3, b4] [.int x0, .int x1, .int x2] w = pm_k 152 34 [b0, b1, b2, b3, b4] [] (pm_call 96 [.int x2, .int x1, .int x0] w) := pm_ns pt_152 pt_96 pt_M_6_110 (Or.inl rfl) d152_31 ⟨rfl, rfl⟩ ⟨⟨rfl, Nat.le_of_ble_eq_true rfl, Nat.le_of_ble_eq_true rfl, Nat.le_of_ble_eq_true rfl, Nat.le_of_ble_eq_true rfl⟩, rfl⟩
theorem d152_34 : decode cX6_priced 34 = .ok (.ifCond .eq 21, 3) := by decide +kernel
theorem z152_34 {st : List Value} {w : pm_H} {pl : pm_L} {x0 : Int32} : pm_ev 152 34 pl (.int x0 :: st) w = if x0 = 0 then pm_ev 152 55 pl st w else pm_ev 152 37 pl st w := pm_nif pt_152 d152_34 rfl rfl rfl
theorem d152_37 : decode cX6_priced 37 = .ok (.aload_n 0, 1) := by decide +kernel
theorem z152_37 {st : List Value} {w : pm_H} {b1 b2 b3 b4 : Option Value} {x0 : Nat} : pm_ev 152 37 [some (.ref x0), b1, b2, b3, b4] st w = pm_ev 152 38 [some (.ref x0), b1, b2, b3, b4] (.ref x0 :: st) w := pm_ny pt_152 d152_37 rfl rfl rfl
theorem d152_38 : decode cX6_priced 38 = .ok (.iconst 1, 1) := by decide +kernel
theorem z152_38 {st : List Value} {w : pm_H} {pl : pm_L} : pm_ev 152 38 pl st w = pm_ev 152 39 pl (.int 1 :: st) w := pm_ny pt_152 d152_38 rfl rfl rfl
theorem d152_39 : decode cX6_priced 39 = .ok (.iconst 2, 1) := by decide +kernel
theorem z152_39 {st : List Value} {w : pm_H} {pl : pm_L} : pm_ev 152 39 pl st w = pm_ev 152 40 pl (.int 2 :: st) w := pm_ny pt_152 d152_39 rfl rfl rfl
theorem d152_40 : decode cX6_priced 40 = .ok (.iload_n 1, 1) := by decide +kernel
theorem z152_40 {st : List Value} {w : pm_H} {b0 b2 b3 b4 : Option Value} {x0 : Int32} : pm_ev 152 40 [b0, some (.int x0), b2, b3, b4] st w = pm_ev 152 41 [b0, some (.int x0), b2, b3, b4] (.int x0 :: st) w := pm_ny pt_152 d152_40 rfl rfl rfl
theorem d152_41 : decode cX6_priced 41 = .ok (.imul, 1) := by decide +kernel
theorem z152_41 {st : List Value} {w : pm_H} {pl : pm_L} {x0 x1 : Int32} : pm_ev 152 41 pl (.int x1 :: .int x0 :: st) w = pm_ev 152 42 pl (.int (x0 * x1) :: st) w := pm_ny pt_152 d152_41 rfl rfl rfl
theorem d152_42 : decode cX6_priced 42 = .ok (.iadd, 1) := by decide +kernel
theorem z152_42 {st : List Value} {w : pm_H} {pl : pm_L} {x0 x1 : Int32} : pm_ev 152 42 pl (.int x1 :: .int x0 :: st) w = pm_ev 152 43 pl (.int (x0 + x1) :: st) w := pm_ny pt_152 d152_42 rfl rfl rfl
theorem d152_43 : decode cX6_priced 43 = .ok (.iconst 1, 1) := by decide +kernel
theorem z152_43 {st : List Value} {w : pm_H} {pl : pm_L} : pm_ev 152 43 pl st w = pm_ev 152 44 pl (.int 1 :: st) w := pm_ny pt_152 d152_43 rfl rfl rfl
theorem d152_44 : decode cX6_priced 44 = .ok (.iadd, 1) := by decide +kernel
theorem z152_44 {st : List Value} {w : pm_H} {pl : pm_L} {x0 x1 : Int32} : pm_ev 152 44 pl (.int x1 :: .int x0 :: st) w = pm_ev 152 45 pl (.int (x0 + x1) :: st) w := pm_ny pt_152 d152_44 rfl rfl rfl
theorem d152_45 : decode cX6_priced 45 = .ok (.iload_n 2, 1) := by decide +kernel
theorem z152_45 {st : List Value} {w : pm_H} {b0 b1 b3 b4 : Option Value} {x0 : Int32} : pm_ev 152 45 [b0, b1, some (.int x0), b3, b4] st w = pm_ev 152 46 [b0, b1, some (.int x0), b3, b4] (.int x0 :: st) w := pm_ny pt_152 d152_45 rfl rfl rfl
theorem d152_46 : decode cX6_priced 46 = .ok (.iload_n 3, 1) := by decide +kernel
theorem z152_46 {st : List Value} {w : pm_H} {b0 b1 b2 b4 : Option Value} {x0 : Int32} : pm_ev 152 46 [b0, b1, b2, some (.int x0), b4] st w = pm_ev 152 47 [b0, b1, b2, some (.int x0), b4] (.int x0 :: st) w := pm_ny pt_152 d152_46 rfl rfl rfl
theorem d152_47 : decode cX6_priced 47 = .ok (.iload 4, 2) := by decide +kernel
theorem z152_47 {st : List Value} {w : pm_H} {b0 b1 b2 b3 : Option Value} {x0 : Int32} : pm_ev 152 47 [b0, b1, b2, b3, some (.int x0)] st w = pm_ev 152 49 [b0, b1, b2, b3, some (.int x0)] (.int x0 :: st) w := pm_ny pt_152 d152_47 rfl rfl rfl
theorem d152_49 : decode cX6_priced 49 = .ok (.invokevirtual 270, 3) := by decide +kernel
theorem z152_49 {w : pm_H} {b0 b1 b2 b3 b4 : Option Value} {x0 : Int32} {x1 : Int32} {x2 : Int32} {x3 : Int32} {x4 : Nat} : pm_ev 152 49 [b0, b1, b2, b3, b4] [.int x0, .int x1, .int x2, .int x3, .ref x4] w = pm_k 152 52 [b0, b1, b2, b3, b4] [] (pm_vc (w x4) 6 (pm_call 153 [.ref x4, .int x3, .int x2, .int x1, .int x0] w)) := pm_nv pt_152 pt_153 pt_M_6_270 d152_49 ⟨rfl, rfl⟩ ⟨⟨rfl, Nat.le_of_ble_eq_true rfl, Nat.le_of_ble_eq_true rfl, Nat.le_of_ble_eq_true rfl, Nat.le_of_ble_eq_true rfl⟩, rfl⟩
theorem d152_52 : decode cX6_priced 52 = .ok (.goto 6, 3) := by decide +kernel
theorem z152_52 {st : List Value} {w : pm_H} {pl : pm_L} : pm_ev 152 52 pl st w = pm_ev 152 58 pl st w := pm_ny pt_152 d152_52 rfl rfl rfl
theorem d152_55 : decode cX6_priced 55 = .ok (.ldc_w 266, 3) := by decide +kernel
theorem z152_55 {st : List Value} {w : pm_H} {pl : pm_L} : pm_ev 152 55 pl st w = pm_ev 152 58 pl (.int (-1000000000) :: st) w := pm_nkw pt_152 pt_K_6_266 rfl d152_55
theorem d152_58 : decode cX6_priced 58 = .ok (.ireturn, 1) := by decide +kernel
theorem z152_58 {w : pm_H} {pl : pm_L} {x0 : Int32} : pm_ev 152 58 pl [.int x0] w = some (some (.int x0), w) := pm_nr pt_152 d152_58 rfl
theorem d153_0 : decode cX6_dilutedBy 0 = .ok (.aload_n 0, 1) := by decide +kernel
theorem z153_0 {st : List Value} {w : pm_H} {b1 b2 b3 b4 b5 b6 : Option Value} {x0 : Nat} : pm_ev 153 0 [some (.ref x0), b1, b2, b3, b4, b5, b6] st w = pm_ev 153 1 [some (.ref x0), b1, b2, b3, b4, b5, b6] (.ref x0 :: st) w := pm_ny pt_153 d153_0 rfl rfl rfl
theorem d153_1 : decode cX6_dilutedBy 1 = .ok (.getfield 84, 3) := by decide +kernel
theorem z153_1 {st : List Value} {w : pm_H} {pl : pm_L} {x0 : Nat} : pm_ev 153 1 pl (.ref x0 :: st) w = pm_kv 153 4 pl st w (pm_gf (w x0) 6 11) := pm_ng pt_153 pt_F_6_84 d153_1
theorem d153_4 : decode cX6_dilutedBy 4 = .ok (.iload_n 1, 1) := by decide +kernel
theorem z153_4 {st : List Value} {w : pm_H} {b0 b2 b3 b4 b5 b6 : Option Value} {x0 : Int32} : pm_ev 153 4 [b0, some (.int x0), b2, b3, b4, b5, b6] st w = pm_ev 153 5 [b0, some (.int x0), b2, b3, b4, b5, b6] (.int x0 :: st) w := pm_ny pt_153 d153_4 rfl rfl rfl
theorem d153_5 : decode cX6_dilutedBy 5 = .ok (.iaload, 1) := by decide +kernel
theorem z153_5 {st : List Value} {w : pm_H} {pl : pm_L} {x0 : Nat} {x1 : Int32} : pm_ev 153 5 pl (.int x1 :: .ref x0 :: st) w = pm_kv 153 6 pl st w (pm_ia (w x0) 0 x1) := pm_nia pt_153 d153_5
theorem d153_6 : decode cX6_dilutedBy 6 = .ok (.istore 5, 2) := by decide +kernel
theorem z153_6 {st : List Value} {w : pm_H} {b0 b1 b2 b3 b5 b6 : Option Value} {x0 : Int32} {x9 : Int32} : pm_ev 153 6 [b0, b1, b2, b3, some (.int x9), b5, b6] (.int x0 :: st) w = pm_ev 153 8 [b0, b1, b2, b3, some (.int x9), some (.int x0), b6] st w := pm_ny pt_153 d153_6 rfl rfl rfl
theorem d153_8 : decode cX6_dilutedBy 8 = .ok (.aload_n 0, 1) := by decide +kernel
theorem z153_8 {st : List Value} {w : pm_H} {b1 b2 b3 b4 b5 b6 : Option Value} {x0 : Nat} : pm_ev 153 8 [some (.ref x0), b1, b2, b3, b4, b5, b6] st w = pm_ev 153 9 [some (.ref x0), b1, b2, b3, b4, b5, b6] (.ref x0 :: st) w := pm_ny pt_153 d153_8 rfl rfl rfl
theorem d153_9 : decode cX6_dilutedBy 9 = .ok (.getfield 84, 3) := by decide +kernel
theorem z153_9 {st : List Value} {w : pm_H} {pl : pm_L} {x0 : Nat} : pm_ev 153 9 pl (.ref x0 :: st) w = pm_kv 153 12 pl st w (pm_gf (w x0) 6 11) := pm_ng pt_153 pt_F_6_84 d153_9
theorem d153_12 : decode cX6_dilutedBy 12 = .ok (.iload_n 1, 1) := by decide +kernel
theorem z153_12 {st : List Value} {w : pm_H} {b0 b2 b3 b4 b5 b6 : Option Value} {x0 : Int32} : pm_ev 153 12 [b0, some (.int x0), b2, b3, b4, b5, b6] st w = pm_ev 153 13 [b0, some (.int x0), b2, b3, b4, b5, b6] (.int x0 :: st) w := pm_ny pt_153 d153_12 rfl rfl rfl
theorem d153_13 : decode cX6_dilutedBy 13 = .ok (.iload_n 2, 1) := by decide +kernel
theorem z153_13 {st : List Value} {w : pm_H} {b0 b1 b3 b4 b5 b6 : Option Value} {x0 : Int32} : pm_ev 153 13 [b0, b1, some (.int x0), b3, b4, b5, b6] st w = pm_ev 153 14 [b0, b1, some (.int x0), b3, b4, b5, b6] (.int x0 :: st) w := pm_ny pt_153 d153_13 rfl rfl rfl
theorem d153_14 : decode cX6_dilutedBy 14 = .ok (.iastore, 1) := by decide +kernel
theorem z153_14 {st : List Value} {w : pm_H} {pl : pm_L} {x0 : Nat} {x1 : Int32} {x2 : Int32} : pm_ev 153 14 pl (.int x2 :: .int x1 :: .ref x0 :: st) w = pm_kw 153 15 pl st (pm_is w x0 (w x0) x1 x2) := pm_nis pt_153 d153_14
theorem d153_15 : decode cX6_dilutedBy 15 = .ok (.aload_n 0, 1) := by decide +kernel
theorem z153_15 {st : List Value} {w : pm_H} {b1 b2 b3 b4 b5 b6 : Option Value} {x0 : Nat} : pm_ev 153 15 [some (.ref x0), b1, b2, b3, b4, b5, b6] st w = pm_ev 153 16 [some (.ref x0), b1, b2, b3, b4, b5, b6] (.ref x0 :: st) w := pm_ny pt_153 d153_15 rfl rfl rfl
theorem d153_16 : decode cX6_dilutedBy 16 = .ok (.iload_n 3, 1) := by decide +kernel
theorem z153_16 {st : List Value} {w : pm_H} {b0 b1 b2 b4 b5 b6 : Option Value} {x0 : Int32} : pm_ev 153 16 [b0, b1, b2, some (.int x0), b4, b5, b6] st w = pm_ev 153 17 [b0, b1, b2, some (.int x0), b4, b5, b6] (.int x0 :: st) w := pm_ny pt_153 d153_16 rfl rfl rfl
theorem d153_17 : decode cX6_dilutedBy 17 = .ok (.iload 4, 2) := by decide +kernel
theorem z153_17 {st : List Value} {w : pm_H} {b0 b1 b2 b3 b5 b6 : Option Value} {x0 : Int32} : pm_ev 153 17 [b0, b1, b2, b3, some (.int x0), b5, b6] st w = pm_ev 153 19 [b0, b1, b2, b3, some (.int x0), b5, b6] (.int x0 :: st) w := pm_ny pt_153 d153_17 rfl rfl rfl
theorem d153_19 : decode cX6_dilutedBy 19 = .ok (.iconst (-1), 1) := by decide +kernel
theorem z153_19 {st : List Value} {w : pm_H} {pl : pm_L} : pm_ev 153 19 pl st w = pm_ev 153 20 pl (.int (-1) :: st) w := pm_ny pt_153 d153_19 rfl rfl rfl
theorem d153_20 : decode cX6_dilutedBy 20 = .ok (.invokevirtual 263, 3) := by decide +kernel
theorem z153_20 {w : pm_H} {b0 b1 b2 b3 b4 b5 b6 : Option Value} {x0 : Int32} {x1 : Int32} {x2 : Int32} {x3 : Nat} : pm_ev 153 20 [b0, b1, b2, b3, b4, b5, b6] [.int x0, .int x1, .int x2, .ref x3] w = pm_k 153 23 [b0, b1, b2, b3, b4, b5, b6] [] (pm_vc (w x3) 6 (pm_call 143 [.ref x3, .int x2, .int x1, .int x0] w)) := pm_nv pt_153 pt_143 pt_M_6_263 d153_20 ⟨rfl, rfl⟩ ⟨⟨rfl, Nat.le_of_ble_eq_true rfl, Nat.le_of_ble_eq_true rfl, Nat.le_of_ble_eq_true rfl, Nat.le_of_ble_eq_true rfl⟩, rfl⟩
theorem d153_23 : decode cX6_dilutedBy 23 = .ok (.istore 6, 2) := by decide +kernel
theorem z153_23 {st : List Value} {w : pm_H} {b0 b1 b2 b3 b4 b6 : Option Value} {x0 : Int32} {x9 : Int32} : pm_ev 153 23 [b0, b1, b2, b3, b4, some (.int x9), b6] (.int x0 :: st) w = pm_ev 153 25 [b0, b1, b2, b3, b4, some (.int x9), some (.int x0)] st w := pm_ny pt_153 d153_23 rfl rfl rfl
theorem d153_25 : decode cX6_dilutedBy 25 = .ok (.aload_n 0, 1) := by decide +kernel
theorem z153_25 {st : List Value} {w : pm_H} {b1 b2 b3 b4 b5 b6 : Option Value} {x0 : Nat} : pm_ev 153 25 [some (.ref x0), b1, b2, b3, b4, b5, b6] st w = pm_ev 153 26 [some (.ref x0), b1, b2, b3, b4, b5, b6] (.ref x0 :: st) w := pm_ny pt_153 d153_25 rfl rfl rfl
theorem d153_26 : decode cX6_dilutedBy 26 = .ok (.getfield 84, 3) := by decide +kernel
theorem z153_26 {st : List Value} {w : pm_H} {pl : pm_L} {x0 : Nat} : pm_ev 153 26 pl (.ref x0 :: st) w = pm_kv 153 29 pl st w (pm_gf (w x0) 6 11) := pm_ng pt_153 pt_F_6_84 d153_26
theorem d153_29 : decode cX6_dilutedBy 29 = .ok (.iload_n 1, 1) := by decide +kernel
theorem z153_29 {st : List Value} {w : pm_H} {b0 b2 b3 b4 b5 b6 : Option Value} {x0 : Int32} : pm_ev 153 29 [b0, some (.int x0), b2, b3, b4, b5, b6] st w = pm_ev 153 30 [b0, some (.int x0), b2, b3, b4, b5, b6] (.int x0 :: st) w := pm_ny pt_153 d153_29 rfl rfl rfl
theorem d153_30 : decode cX6_dilutedBy 30 = .ok (.iload 5, 2) := by decide +kernel
theorem z153_30 {st : List Value} {w : pm_H} {b0 b1 b2 b3 b4 b6 : Option Value} {x0 : Int32} : pm_ev 153 30 [b0, b1, b2, b3, b4, some (.int x0), b6] st w = pm_ev 153 32 [b0, b1, b2, b3, b4, some (.int x0), b6] (.int x0 :: st) w := pm_ny pt_153 d153_30 rfl rfl rfl
theorem d153_32 : decode cX6_dilutedBy 32 = .ok (.iastore, 1) := by decide +kernel
theorem z153_32 {st : List Value} {w : pm_H} {pl : pm_L} {x0 : Nat} {x1 : Int32} {x2 : Int32} : pm_ev 153 32 pl (.int x2 :: .int x1 :: .ref x0 :: st) w = pm_kw 153 33 pl st (pm_is w x0 (w x0) x1 x2) := pm_nis pt_153 d153_32
theorem d153_33 : decode cX6_dilutedBy 33 = .ok (.iload 6, 2) := by decide +kernel
theorem z153_33 {st : List Value} {w : pm_H} {b0 b1 b2 b3 b4 b5 : Option Value} {x0 : Int32} : pm_ev 153 33 [b0, b1, b2, b3, b4, b5, some (.int x0)] st w = pm_ev 153 35 [b0, b1, b2, b3, b4, b5, some (.int x0)] (.int x0 :: st) w := pm_ny pt_153 d153_33 rfl rfl rfl
theorem d153_35 : decode cX6_dilutedBy 35 = .ok (.ireturn, 1) := by decide +kernel
theorem z153_35 {w : pm_H} {pl : pm_L} {x0 : Int32} : pm_ev 153 35 pl [.int x0] w = some (some (.int x0), w) := pm_nr pt_153 d153_35 rfl
theorem d154_0 : decode cX6_profit 0 = .ok (.aload_n 0, 1) := by decide +kernel
theorem z154_0 {st : List Value} {w : pm_H} {b1 b2 b3 b4 b5 : Option Value} {x0 : Nat} : pm_ev 154 0 [some (.ref x0), b1, b2, b3, b4, b5] st w = pm_ev 154 1 [some (.ref x0), b1, b2, b3, b4, b5] (.ref x0 :: st) w := pm_ny pt_154 d154_0 rfl rfl rfl
theorem d154_1 : decode cX6_profit 1 = .ok (.iconst 0, 1) := by decide +kernel
theorem z154_1 {st : List Value} {w : pm_H} {pl : pm_L} : pm_ev 154 1 pl st w = pm_ev 154 2 pl (.int 0 :: st) w := pm_ny pt_154 d154_1 rfl rfl rfl
theorem d154_2 : decode cX6_profit 2 = .ok (.putfield 1, 3) := by decide +kernel
theorem z154_2 {st : List Value} {w : pm_H} {pl : pm_L} {x0 : Nat} {x1 : Int32} : pm_ev 154 2 pl (.int x1 :: .ref x0 :: st) w = pm_kw 154 5 pl st (pm_pf w x0 (w x0) 6 0 0 (.int x1)) := pm_np pt_154 pt_F_6_1 d154_2
theorem d154_5 : decode cX6_profit 5 = .ok (.iload_n 3, 1) := by decide +kernel
theorem z154_5 {st : List Value} {w : pm_H} {b0 b1 b2 b4 b5 : Option Value} {x0 : Int32} : pm_ev 154 5 [b0, b1, b2, some (.int x0), b4, b5] st w = pm_ev 154 6 [b0, b1, b2, some (.int x0), b4, b5] (.int x0 :: st) w := pm_ny pt_154 d154_5 rfl rfl rfl
theorem d154_6 : decode cX6_profit 6 = .ok (.iload 4, 2) := by decide +kernel
theorem z154_6 {st : List Value} {w : pm_H} {b0 b1 b2 b3 b5 : Option Value} {x0 : Int32} : pm_ev 154 6 [b0, b1, b2, b3, some (.int x0), b5] st w = pm_ev 154 8 [b0, b1, b2, b3, some (.int x0), b5] (.int x0 :: st) w := pm_ny pt_154 d154_6 rfl rfl rfl
theorem d154_8 : decode cX6_profit 8 = .ok (.invokestatic 217, 3) := by decide +kernel
theorem z154_8 {w : pm_H} {b0 b1 b2 b3 b4 b5 : Option Value} {x0 : Int32} {x1 : Int32} : pm_ev 154 8 [b0, b1, b2, b3, b4, b5] [.int x0, .int x1] w = pm_k 154 11 [b0, b1, b2, b3, b4, b5] [] (pm_call 133 [.int x1, .int x0] w) := pm_ns pt_154 pt_133 pt_M_6_217 (Or.inl rfl) d154_8 ⟨rfl, rfl⟩ ⟨⟨rfl, Nat.le_of_ble_eq_true rfl, Nat.le_of_ble_eq_true rfl, Nat.le_of_ble_eq_true rfl, Nat.le_of_ble_eq_true rfl⟩, rfl⟩
theorem d154_11 : decode cX6_profit 11 = .ok (.ifCond .ne 8, 3) := by decide +kernel
theorem z154_11 {st : List Value} {w : pm_H} {pl : pm_L} {x0 : Int32} : pm_ev 154 11 pl (.int x0 :: st) w = if x0 = 0 then pm_ev 154 14 pl st w else pm_ev 154 19 pl st w := pm_nin (c := ¬ x0 = 0) pt_154 d154_11 rfl rfl rfl Iff.rfl
theorem d154_14 : decode cX6_profit 14 = .ok (.aload_n 0, 1) := by decide +kernel
theorem z154_14 {st : List Value} {w : pm_H} {b1 b2 b3 b4 b5 : Option Value} {x0 : Nat} : pm_ev 154 14 [some (.ref x0), b1, b2, b3, b4, b5] st w = pm_ev 154 15 [some (.ref x0), b1, b2, b3, b4, b5] (.ref x0 :: st) w := pm_ny pt_154 d154_14 rfl rfl rfl
theorem d154_15 : decode cX6_profit 15 = .ok (.invokevirtual 191, 3) := by decide +kernel
theorem z154_15 {w : pm_H} {b0 b1 b2 b3 b4 b5 : Option Value} {x0 : Nat} : pm_ev 154 15 [b0, b1, b2, b3, b4, b5] [.ref x0] w = pm_k 154 18 [b0, b1, b2, b3, b4, b5] [] (pm_vc (w x0) 6 (pm_call 126 [.ref x0] w)) := pm_nv pt_154 pt_126 pt_M_6_191 d154_15 ⟨rfl, rfl⟩ ⟨⟨rfl, Nat.le_of_ble_eq_true rfl, Nat.le_of_ble_eq_true rfl, Nat.le_of_ble_eq_true rfl, Nat.le_of_ble_eq_true rfl⟩, rfl⟩
theorem d154_18 : decode cX6_profit 18 = .ok (.ireturn, 1) := by decide +kernel
theorem z154_18 {w : pm_H} {pl : pm_L} {x0 : Int32} : pm_ev 154 18 pl [.int x0] w = some (some (.int x0), w) := pm_nr pt_154 d154_18 rfl
theorem d154_19 : decode cX6_profit 19 = .ok (.iload_n 1, 1) := by decide +kernel
theorem z154_19 {st : List Value} {w : pm_H} {b0 b2 b3 b4 b5 : Option Value} {x0 : Int32} : pm_ev 154 19 [b0, some (.int x0), b2, b3, b4, b5] st w = pm_ev 154 20 [b0, some (.int x0), b2, b3, b4, b5] (.int x0 :: st) w := pm_ny pt_154 d154_19 rfl rfl rfl
theorem d154_20 : decode cX6_profit 20 = .ok (.invokestatic 188, 3) := by decide +kernel
theorem z154_20 {w : pm_H} {b0 b1 b2 b3 b4 b5 : Option Value} {x0 : Int32} : pm_ev 154 20 [b0, b1, b2, b3, b4, b5] [.int x0] w = pm_k 154 23 [b0, b1, b2, b3, b4, b5] [] (pm_call 125 [.int x0] w) := pm_ns pt_154 pt_125 pt_M_6_188 (Or.inl rfl) d154_20 ⟨rfl, rfl⟩ ⟨⟨rfl, Nat.le_of_ble_eq_true rfl, Nat.le_of_ble_eq_true rfl, Nat.le_of_ble_eq_true rfl, Nat.le_of_ble_eq_true rfl⟩, rfl⟩
theorem d154_23 : decode cX6_profit 23 = .ok (.ifCond .eq 11, 3) := by decide +kernel
theorem z154_23 {st : List Value} {w : pm_H} {pl : pm_L} {x0 : Int32} : pm_ev 154 23 pl (.int x0 :: st) w = if x0 = 0 then pm_ev 154 34 pl st w else pm_ev 154 26 pl st w := pm_nif pt_154 d154_23 rfl rfl rfl
theorem d154_26 : decode cX6_profit 26 = .ok (.aload_n 0, 1) := by decide +kernel
theorem z154_26 {st : List Value} {w : pm_H} {b1 b2 b3 b4 b5 : Option Value} {x0 : Nat} : pm_ev 154 26 [some (.ref x0), b1, b2, b3, b4, b5] st w = pm_ev 154 27 [some (.ref x0), b1, b2, b3, b4, b5] (.ref x0 :: st) w := pm_ny pt_154 d154_26 rfl rfl rfl
theorem d154_27 : decode cX6_profit 27 = .ok (.iload_n 2, 1) := by decide +kernel
theorem z154_27 {st : List Value} {w : pm_H} {b0 b1 b3 b4 b5 : Option Value} {x0 : Int32} : pm_ev 154 27 [b0, b1, some (.int x0), b3, b4, b5] st w = pm_ev 154 28 [b0, b1, some (.int x0), b3, b4, b5] (.int x0 :: st) w := pm_ny pt_154 d154_27 rfl rfl rfl
theorem d154_28 : decode cX6_profit 28 = .ok (.invokevirtual 195, 3) := by decide +kernel
theorem z154_28 {w : pm_H} {b0 b1 b2 b3 b4 b5 : Option Value} {x0 : Int32} {x1 : Nat} : pm_ev 154 28 [b0, b1, b2, b3, b4, b5] [.int x0, .ref x1] w = pm_k 154 31 [b0, b1, b2, b3, b4, b5] [] (pm_vc (w x1) 6 (pm_call 129 [.ref x1, .int x0] w)) := pm_nv pt_154 pt_129 pt_M_6_195 d154_28 ⟨rfl, rfl⟩ ⟨⟨rfl, Nat.le_of_ble_eq_true rfl, Nat.le_of_ble_eq_true rfl, Nat.le_of_ble_eq_true rfl, Nat.le_of_ble_eq_true rfl⟩, rfl⟩
theorem d154_31 : decode cX6_profit 31 = .ok (.ifCond .ne 5, 3) := by decide +kernel
theorem z154_31 {st : List Value} {w : pm_H} {pl : pm_L} {x0 : Int32} : pm_ev 154 31 pl (.int x0 :: st) w = if x0 = 0 then pm_ev 154 34 pl st w else pm_ev 154 36 pl st w := pm_nin (c := ¬ x0 = 0) pt_154 d154_31 rfl rfl rfl Iff.rfl
theorem d154_34 : decode cX6_profit 34 = .ok (.iconst (-1), 1) := by decide +kernel
theorem z154_34 {st : List Value} {w : pm_H} {pl : pm_L} : pm_ev 154 34 pl st w = pm_ev 154 35 pl (.int (-1) :: st) w := pm_ny pt_154 d154_34 rfl rfl rfl
theorem d154_35 : decode cX6_profit 35 = .ok (.ireturn, 1) := by decide +kernel
theorem z154_35 {w : pm_H} {pl : pm_L} {x0 : Int32} : pm_ev 154 35 pl [.int x0] w = some (some (.int x0), w) := pm_nr pt_154 d154_35 rfl
theorem d154_36 : decode cX6_profit 36 = .ok (.iconst 0, 1) := by decide +kernel
theorem z154_36 {st : List Value} {w : pm_H} {pl : pm_L} : pm_ev 154 36 pl st w = pm_ev 154 37 pl (.int 0 :: st) w := pm_ny pt_154 d154_36 rfl rfl rfl
theorem d154_37 : decode cX6_profit 37 = .ok (.istore 5, 2) := by decide +kernel
theorem z154_37 {st : List Value} {w : pm_H} {b0 b1 b2 b3 b5 : Option Value} {x0 : Int32} {x9 : Int32} : pm_ev 154 37 [b0, b1, b2, b3, some (.int x9), b5] (.int x0 :: st) w = pm_ev 154 39 [b0, b1, b2, b3, some (.int x9), some (.int x0)] st w := pm_ny pt_154 d154_37 rfl rfl rfl
theorem d154_39 : decode cX6_profit 39 = .ok (.iload 5, 2) := by decide +kernel
theorem z154_39 {st : List Value} {w : pm_H} {b0 b1 b2 b3 b4 : Option Value} {x0 : Int32} : pm_ev 154 39 [b0, b1, b2, b3, b4, some (.int x0)] st w = pm_ev 154 41 [b0, b1, b2, b3, b4, some (.int x0)] (.int x0 :: st) w := pm_ny pt_154 d154_39 rfl rfl rfl
theorem d154_41 : decode cX6_profit 41 = .ok (.ldc 117, 2) := by decide +kernel
theorem z154_41 {st : List Value} {w : pm_H} {pl : pm_L} : pm_ev 154 41 pl st w = pm_ev 154 43 pl (.int (99999) :: st) w := pm_nk pt_154 pt_K_6_117 (by decide) d154_41
theorem d154_43 : decode cX6_profit 43 = .ok (.if_icmp .ge 38, 3) := by decide +kernel
theorem z154_43 {st : List Value} {w : pm_H} {pl : pm_L} {x0 x1 : Int32} : pm_ev 154 43 pl (.int x1 :: .int x0 :: st) w = if x0 < x1 then pm_ev 154 46 pl st w else pm_ev 154 81 pl st w := pm_nin (c := x1 ≤ x0) pt_154 d154_43 rfl rfl rfl pm_ge
theorem d154_46 : decode cX6_profit 46 = .ok (.aload_n 0, 1) := by decide +kernel
theorem z154_46 {st : List Value} {w : pm_H} {b1 b2 b3 b4 b5 : Option Value} {x0 : Nat} : pm_ev 154 46 [some (.ref x0), b1, b2, b3, b4, b5] st w = pm_ev 154 47 [some (.ref x0), b1, b2, b3, b4, b5] (.ref x0 :: st) w := pm_ny pt_154 d154_46 rfl rfl rfl
theorem d154_47 : decode cX6_profit 47 = .ok (.iconst 1, 1) := by decide +kernel
theorem z154_47 {st : List Value} {w : pm_H} {pl : pm_L} : pm_ev 154 47 pl st w = pm_ev 154 48 pl (.int 1 :: st) w := pm_ny pt_154 d154_47 rfl rfl rfl
theorem d154_48 : decode cX6_profit 48 = .ok (.iconst 2, 1) := by decide +kernel
theorem z154_48 {st : List Value} {w : pm_H} {pl : pm_L} : pm_ev 154 48 pl st w = pm_ev 154 49 pl (.int 2 :: st) w := pm_ny pt_154 d154_48 rfl rfl rfl
theorem d154_49 : decode cX6_profit 49 = .ok (.iload_n 1, 1) := by decide +kernel
theorem z154_49 {st : List Value} {w : pm_H} {b0 b2 b3 b4 b5 : Option Value} {x0 : Int32} : pm_ev 154 49 [b0, some (.int x0), b2, b3, b4, b5] st w = pm_ev 154 50 [b0, some (.int x0), b2, b3, b4, b5] (.int x0 :: st) w := pm_ny pt_154 d154_49 rfl rfl rfl
theorem d154_50 : decode cX6_profit 50 = .ok (.imul, 1) := by decide +kernel
theorem z154_50 {st : List Value} {w : pm_H} {pl : pm_L} {x0 x1 : Int32} : pm_ev 154 50 pl (.int x1 :: .int x0 :: st) w = pm_ev 154 51 pl (.int (x0 * x1) :: st) w := pm_ny pt_154 d154_50 rfl rfl rfl
theorem d154_51 : decode cX6_profit 51 = .ok (.iadd, 1) := by decide +kernel
theorem z154_51 {st : List Value} {w : pm_H} {pl : pm_L} {x0 x1 : Int32} : pm_ev 154 51 pl (.int x1 :: .int x0 :: st) w = pm_ev 154 52 pl (.int (x0 + x1) :: st) w := pm_ny pt_154 d154_51 rfl rfl rfl
theorem d154_52 : decode cX6_profit 52 = .ok (.iload 5, 2) := by decide +kernel
theorem z154_52 {st : List Value} {w : pm_H} {b0 b1 b2 b3 b4 : Option Value} {x0 : Int32} : pm_ev 154 52 [b0, b1, b2, b3, b4, some (.int x0)] st w = pm_ev 154 54 [b0, b1, b2, b3, b4, some (.int x0)] (.int x0 :: st) w := pm_ny pt_154 d154_52 rfl rfl rfl
theorem d154_54 : decode cX6_profit 54 = .ok (.iload_n 3, 1) := by decide +kernel
theorem z154_54 {st : List Value} {w : pm_H} {b0 b1 b2 b4 b5 : Option Value} {x0 : Int32} : pm_ev 154 54 [b0, b1, b2, some (.int x0), b4, b5] st w = pm_ev 154 55 [b0, b1, b2, some (.int x0), b4, b5] (.int x0 :: st) w := pm_ny pt_154 d154_54 rfl rfl rfl
theorem d154_55 : decode cX6_profit 55 = .ok (.iload 4, 2) := by decide +kernel
theorem z154_55 {st : List Value} {w : pm_H} {b0 b1 b2 b3 b5 : Option Value} {x0 : Int32} : pm_ev 154 55 [b0, b1, b2, b3, some (.int x0), b5] st w = pm_ev 154 57 [b0, b1, b2, b3, some (.int x0), b5] (.int x0 :: st) w := pm_ny pt_154 d154_55 rfl rfl rfl
theorem d154_57 : decode cX6_profit 57 = .ok (.invokevirtual 270, 3) := by decide +kernel
theorem z154_57 {w : pm_H} {b0 b1 b2 b3 b4 b5 : Option Value} {x0 : Int32} {x1 : Int32} {x2 : Int32} {x3 : Int32} {x4 : Nat} : pm_ev 154 57 [b0, b1, b2, b3, b4, b5] [.int x0, .int x1, .int x2, .int x3, .ref x4] w = pm_k 154 60 [b0, b1, b2, b3, b4, b5] [] (pm_vc (w x4) 6 (pm_call 153 [.ref x4, .int x3, .int x2, .int x1, .int x0] w)) := pm_nv pt_154 pt_153 pt_M_6_270 d154_57 ⟨rfl, rfl⟩ ⟨⟨rfl, Nat.le_of_ble_eq_true rfl, Nat.le_of_ble_eq_true rfl, Nat.le_of_ble_eq_true rfl, Nat.le_of_ble_eq_true rfl⟩, rfl⟩
theorem d154_60 : decode cX6_profit 60 = .ok (.pop, 1) := by decide +kernel
theorem z154_60 {st : List Value} {w : pm_H} {pl : pm_L} {x0 : Int32} : pm_ev 154 60 pl (.int x0 :: st) w = pm_ev 154 61 pl st w := pm_ny pt_154 d154_60 rfl rfl rfl
theorem d154_61 : decode cX6_profit 61 = .ok (.aload_n 0, 1) := by decide +kernel
theorem z154_61 {st : List Value} {w : pm_H} {b1 b2 b3 b4 b5 : Option Value} {x0 : Nat} : pm_ev 154 61 [some (.ref x0), b1, b2, b3, b4, b5] st w = pm_ev 154 62 [some (.ref x0), b1, b2, b3, b4, b5] (.ref x0 :: st) w := pm_ny pt_154 d154_61 rfl rfl rfl
theorem d154_62 : decode cX6_profit 62 = .ok (.getfield 242, 3) := by decide +kernel
theorem z154_62 {st : List Value} {w : pm_H} {pl : pm_L} {x0 : Nat} : pm_ev 154 62 pl (.ref x0 :: st) w = pm_kv 154 65 pl st w (pm_gf (w x0) 6 19) := pm_ng pt_154 pt_F_6_242 d154_62
theorem d154_65 : decode cX6_profit 65 = .ok (.iload_n 2, 1) := by decide +kernel
theorem z154_65 {st : List Value} {w : pm_H} {b0 b1 b3 b4 b5 : Option Value} {x0 : Int32} : pm_ev 154 65 [b0, b1, some (.int x0), b3, b4, b5] st w = pm_ev 154 66 [b0, b1, some (.int x0), b3, b4, b5] (.int x0 :: st) w := pm_ny pt_154 d154_65 rfl rfl rfl
theorem d154_66 : decode cX6_profit 66 = .ok (.invokestatic 267, 3) := by decide +kernel
theorem z154_66 {w : pm_H} {b0 b1 b2 b3 b4 b5 : Option Value} {x0 : Int32} {x1 : Int32} : pm_ev 154 66 [b0, b1, b2, b3, b4, b5] [.int x0, .int x1] w = pm_k 154 69 [b0, b1, b2, b3, b4, b5] [] (pm_call 151 [.int x1, .int x0] w) := pm_ns pt_154 pt_151 pt_M_6_267 (Or.inl rfl) d154_66 ⟨rfl, rfl⟩ ⟨⟨rfl, Nat.le_of_ble_eq_true rfl, Nat.le_of_ble_eq_true rfl, Nat.le_of_ble_eq_true rfl, Nat.le_of_ble_eq_true rfl⟩, rfl⟩
theorem d154_69 : decode cX6_profit 69 = .ok (.ifCond .eq 6, 3) := by decide +kernel
theorem z154_69 {st : List Value} {w : pm_H} {pl : pm_L} {x0 : Int32} : pm_ev 154 69 pl (.int x0 :: st) w = if x0 = 0 then pm_ev 154 75 pl st w else pm_ev 154 72 pl st w := pm_nif pt_154 d154_69 rfl rfl rfl
theorem d154_72 : decode cX6_profit 72 = .ok (.iload 5, 2) := by decide +kernel
theorem z154_72 {st : List Value} {w : pm_H} {b0 b1 b2 b3 b4 : Option Value} {x0 : Int32} : pm_ev 154 72 [b0, b1, b2, b3, b4, some (.int x0)] st w = pm_ev 154 74 [b0, b1, b2, b3, b4, some (.int x0)] (.int x0 :: st) w := pm_ny pt_154 d154_72 rfl rfl rfl
theorem d154_74 : decode cX6_profit 74 = .ok (.ireturn, 1) := by decide +kernel
theorem z154_74 {w : pm_H} {pl : pm_L} {x0 : Int32} : pm_ev 154 74 pl [.int x0] w = some (some (.int x0), w) := pm_nr pt_154 d154_74 rfl
theorem d154_75 : decode cX6_profit 75 = .ok (.iinc 5 100, 3) := by decide +kernel
theorem z154_75 {st : List Value} {w : pm_H} {b0 b1 b2 b3 : Option Value} {x0 : Int32} {x9 : Int32} : pm_ev 154 75 [b0, b1, b2, b3, some (.int x9), some (.int x0)] st w = pm_ev 154 78 [b0, b1, b2, b3, some (.int x9), some (.int (x0 + 100))] st w := pm_ny pt_154 d154_75 rfl rfl rfl
theorem d154_78 : decode cX6_profit 78 = .ok (.goto (-39), 3) := by decide +kernel
theorem z154_78 {st : List Value} {w : pm_H} {pl : pm_L} : pm_ev 154 78 pl st w = pm_ev 154 39 pl st w := pm_ny pt_154 d154_78 rfl rfl rfl
theorem d154_81 : decode cX6_profit 81 = .ok (.bipush (-2), 2) := by decide +kernel
theorem z154_81 {st : List Value} {w : pm_H} {pl : pm_L} : pm_ev 154 81 pl st w = pm_ev 154 83 pl (.int (-2) :: st) w := pm_ny pt_154 d154_81 rfl rfl rfl
theorem d154_83 : decode cX6_profit 83 = .ok (.ireturn, 1) := by decide +kernel
theorem z154_83 {w : pm_H} {pl : pm_L} {x0 : Int32} : pm_ev 154 83 pl [.int x0] w = some (some (.int x0), w) := pm_nr pt_154 d154_83 rfl
theorem d155_0 : decode cX6_ifSplit 0 = .ok (.aload_n 0, 1) := by decide +kernel
theorem z155_0 {st : List Value} {w : pm_H} {b1 b2 b3 b4 : Option Value} {x0 : Nat} : pm_ev 155 0 [some (.ref x0), b1, b2, b3, b4] st w = pm_ev 155 1 [some (.ref x0), b1, b2, b3, b4] (.ref x0 :: st) w := pm_ny pt_155 d155_0 rfl rfl rfl
theorem d155_1 : decode cX6_ifSplit 1 = .ok (.iconst 0, 1) := by decide +kernel
theorem z155_1 {st : List Value} {w : pm_H} {pl : pm_L} : pm_ev 155 1 pl st w = pm_ev 155 2 pl (.int 0 :: st) w := pm_ny pt_155 d155_1 rfl rfl rfl
theorem d155_2 : decode cX6_ifSplit 2 = .ok (.putfield 1, 3) := by decide +kernel
theorem z155_2 {st : List Value} {w : pm_H} {pl : pm_L} {x0 : Nat} {x1 : Int32} : pm_ev 155 2 pl (.int x1 :: .ref x0 :: st) w = pm_kw 155 5 pl st (pm_pf w x0 (w x0) 6 0 0 (.int x1)) := pm_np pt_155 pt_F_6_1 d155_2
theorem d155_5 : decode cX6_ifSplit 5 = .ok (.iload_n 2, 1) := by decide +kernel
theorem z155_5 {st : List Value} {w : pm_H} {b0 b1 b3 b4 : Option Value} {x0 : Int32} : pm_ev 155 5 [b0, b1, some (.int x0), b3, b4] st w = pm_ev 155 6 [b0, b1, some (.int x0), b3, b4] (.int x0 :: st) w := pm_ny pt_155 d155_5 rfl rfl rfl
theorem d155_6 : decode cX6_ifSplit 6 = .ok (.iload_n 3, 1) := by decide +kernel
theorem z155_6 {st : List Value} {w : pm_H} {b0 b1 b2 b4 : Option Value} {x0 : Int32} : pm_ev 155 6 [b0, b1, b2, some (.int x0), b4] st w = pm_ev 155 7 [b0, b1, b2, some (.int x0), b4] (.int x0 :: st) w := pm_ny pt_155 d155_6 rfl rfl rfl
theorem d155_7 : decode cX6_ifSplit 7 = .ok (.invokestatic 217, 3) := by decide +kernel
theorem z155_7 {w : pm_H} {b0 b1 b2 b3 b4 : Option Value} {x0 : Int32} {x1 : Int32} : pm_ev 155 7 [b0, b1, b2, b3, b4] [.int x0, .int x1] w = pm_k 155 10 [b0, b1, b2, b3, b4] [] (pm_call 133 [.int x1, .int x0] w) := pm_ns pt_155 pt_133 pt_M_6_217 (Or.inl rfl) d155_7 ⟨rfl, rfl⟩ ⟨⟨rfl, Nat.le_of_ble_eq_true rfl, Nat.le_of_ble_eq_true rfl, Nat.le_of_ble_eq_true rfl, Nat.le_of_ble_eq_true rfl⟩, rfl⟩
theorem d155_10 : decode cX6_ifSplit 10 = .ok (.ifCond .ne 8, 3) := by decide +kernel
theorem z155_10 {st : List Value} {w : pm_H} {pl : pm_L} {x0 : Int32} : pm_ev 155 10 pl (.int x0 :: st) w = if x0 = 0 then pm_ev 155 13 pl st w else pm_ev 155 18 pl st w := pm_nin (c := ¬ x0 = 0) pt_155 d155_10 rfl rfl rfl Iff.rfl
theorem d155_13 : decode cX6_ifSplit 13 = .ok (.aload_n 0, 1) := by decide +kernel
theorem z155_13 {st : List Value} {w : pm_H} {b1 b2 b3 b4 : Option Value} {x0 : Nat} : pm_ev 155 13 [some (.ref x0), b1, b2, b3, b4] st w = pm_ev 155 14 [some (.ref x0), b1, b2, b3, b4] (.ref x0 :: st) w := pm_ny pt_155 d155_13 rfl rfl rfl
theorem d155_14 : decode cX6_ifSplit 14 = .ok (.invokevirtual 191, 3) := by decide +kernel
theorem z155_14 {w : pm_H} {b0 b1 b2 b3 b4 : Option Value} {x0 : Nat} : pm_ev 155 14 [b0, b1, b2, b3, b4] [.ref x0] w = pm_k 155 17 [b0, b1, b2, b3, b4] [] (pm_vc (w x0) 6 (pm_call 126 [.ref x0] w)) := pm_nv pt_155 pt_126 pt_M_6_191 d155_14 ⟨rfl, rfl⟩ ⟨⟨rfl, Nat.le_of_ble_eq_true rfl, Nat.le_of_ble_eq_true rfl, Nat.le_of_ble_eq_true rfl, Nat.le_of_ble_eq_true rfl⟩, rfl⟩
theorem d155_17 : decode cX6_ifSplit 17 = .ok (.ireturn, 1) := by decide +kernel
theorem z155_17 {w : pm_H} {pl : pm_L} {x0 : Int32} : pm_ev 155 17 pl [.int x0] w = some (some (.int x0), w) := pm_nr pt_155 d155_17 rfl
theorem d155_18 : decode cX6_ifSplit 18 = .ok (.iload_n 1, 1) := by decide +kernel
theorem z155_18 {st : List Value} {w : pm_H} {b0 b2 b3 b4 : Option Value} {x0 : Int32} : pm_ev 155 18 [b0, some (.int x0), b2, b3, b4] st w = pm_ev 155 19 [b0, some (.int x0), b2, b3, b4] (.int x0 :: st) w := pm_ny pt_155 d155_18 rfl rfl rfl
theorem d155_19 : decode cX6_ifSplit 19 = .ok (.iconst 2, 1) := by decide +kernel
theorem z155_19 {st : List Value} {w : pm_H} {pl : pm_L} : pm_ev 155 19 pl st w = pm_ev 155 20 pl (.int 2 :: st) w := pm_ny pt_155 d155_19 rfl rfl rfl
theorem d155_20 : decode cX6_ifSplit 20 = .ok (.bipush 9, 2) := by decide +kernel
theorem z155_20 {st : List Value} {w : pm_H} {pl : pm_L} : pm_ev 155 20 pl st w = pm_ev 155 22 pl (.int 9 :: st) w := pm_ny pt_155 d155_20 rfl rfl rfl
theorem d155_22 : decode cX6_ifSplit 22 = .ok (.invokestatic 110, 3) := by decide +kernel
theorem z155_22 {w : pm_H} {b0 b1 b2 b3 b4 : Option Value} {x0 : Int32} {x1 : Int32} {x2 : Int32} : pm_ev 155 22 [b0, b1, b2, b3, b4] [.int x0, .int x1, .int x2] w = pm_k 155 25 [b0, b1, b2, b3, b4] [] (pm_call 96 [.int x2, .int x1, .int x0] w) := pm_ns pt_155 pt_96 pt_M_6_110 (Or.inl rfl) d155_22 ⟨rfl, rfl⟩ ⟨⟨rfl, Nat.le_of_ble_eq_true rfl, Nat.le_of_ble_eq_true rfl, Nat.le_of_ble_eq_true rfl, Nat.le_of_ble_eq_true rfl⟩, rfl⟩
theorem d155_25 : decode cX6_ifSplit 25 = .ok (.ifCond .eq 11, 3) := by decide +kernel
theorem z155_25 {st : List Value} {w : pm_H} {pl : pm_L} {x0 : Int32} : pm_ev 155 25 pl (.int x0 :: st) w = if x0 = 0 then pm_ev 155 36 pl st w else pm_ev 155 28 pl st w := pm_nif pt_155 d155_25 rfl rfl rfl
theorem d155_28 : decode cX6_ifSplit 28 = .ok (.aload_n 0, 1) := by decide +kernel
theorem z155_28 {st : List Value} {w : pm_H} {b1 b2 b3 b4 : Option Value} {x0 : Nat} : pm_ev 155 28 [some (.ref x0), b1, b2, b3, b4] st w = pm_ev 155 29 [some (.ref x0), b1, b2, b3, b4] (.ref x0 :: st) w := pm_ny pt_155 d155_28 rfl rfl rfl
theorem d155_29 : decode cX6_ifSplit 29 = .ok (.iconst 2, 1) := by decide +kernel
theorem z155_29 {st : List Value} {w : pm_H} {pl : pm_L} : pm_ev 155 29 pl st w = pm_ev 155 30 pl (.int 2 :: st) w := pm_ny pt_155 d155_29 rfl rfl rfl
theorem d155_30 : decode cX6_ifSplit 30 = .ok (.invokevirtual 274, 3) := by decide +kernel
theorem z155_30 {w : pm_H} {b0 b1 b2 b3 b4 : Option Value} {x0 : Int32} {x1 : Nat} : pm_ev 155 30 [b0, b1, b2, b3, b4] [.int x0, .ref x1] w = pm_k 155 33 [b0, b1, b2, b3, b4] [] (pm_vc (w x1) 6 (pm_call 156 [.ref x1, .int x0] w)) := pm_nv pt_155 pt_156 pt_M_6_274 d155_30 ⟨rfl, rfl⟩ ⟨⟨rfl, Nat.le_of_ble_eq_true rfl, Nat.le_of_ble_eq_true rfl, Nat.le_of_ble_eq_true rfl, Nat.le_of_ble_eq_true rfl⟩, rfl⟩
theorem d155_33 : decode cX6_ifSplit 33 = .ok (.ifCond .eq 7, 3) := by decide +kernel
theorem z155_33 {st : List Value} {w : pm_H} {pl : pm_L} {x0 : Int32} : pm_ev 155 33 pl (.int x0 :: st) w = if x0 = 0 then pm_ev 155 40 pl st w else pm_ev 155 36 pl st w := pm_nif pt_155 d155_33 rfl rfl rfl
theorem d155_36 : decode cX6_ifSplit 36 = .ok (.ldc_w 266, 3) := by decide +kernel
theorem z155_36 {st : List Value} {w : pm_H} {pl : pm_L} : pm_ev 155 36 pl st w = pm_ev 155 39 pl (.int (-1000000000) :: st) w := pm_nkw pt_155 pt_K_6_266 rfl d155_36
theorem d155_39 : decode cX6_ifSplit 39 = .ok (.ireturn, 1) := by decide +kernel
theorem z155_39 {w : pm_H} {pl : pm_L} {x0 : Int32} : pm_ev 155 39 pl [.int x0] w = some (some (.int x0), w) := pm_nr pt_155 d155_39 rfl
theorem d155_40 : decode cX6_ifSplit 40 = .ok (.aload_n 0, 1) := by decide +kernel
theorem z155_40 {st : List Value} {w : pm_H} {b1 b2 b3 b4 : Option Value} {x0 : Nat} : pm_ev 155 40 [some (.ref x0), b1, b2, b3, b4] st w = pm_ev 155 41 [some (.ref x0), b1, b2, b3, b4] (.ref x0 :: st) w := pm_ny pt_155 d155_40 rfl rfl rfl
theorem d155_41 : decode cX6_ifSplit 41 = .ok (.iconst 2, 1) := by decide +kernel
theorem z155_41 {st : List Value} {w : pm_H} {pl : pm_L} : pm_ev 155 41 pl st w = pm_ev 155 42 pl (.int 2 :: st) w := pm_ny pt_155 d155_41 rfl rfl rfl
theorem d155_42 : decode cX6_ifSplit 42 = .ok (.aload_n 0, 1) := by decide +kernel
theorem z155_42 {st : List Value} {w : pm_H} {b1 b2 b3 b4 : Option Value} {x0 : Nat} : pm_ev 155 42 [some (.ref x0), b1, b2, b3, b4] st w = pm_ev 155 43 [some (.ref x0), b1, b2, b3, b4] (.ref x0 :: st) w := pm_ny pt_155 d155_42 rfl rfl rfl
theorem d155_43 : decode cX6_ifSplit 43 = .ok (.getfield 84, 3) := by decide +kernel
theorem z155_43 {st : List Value} {w : pm_H} {pl : pm_L} {x0 : Nat} : pm_ev 155 43 pl (.ref x0 :: st) w = pm_kv 155 46 pl st w (pm_gf (w x0) 6 11) := pm_ng pt_155 pt_F_6_84 d155_43
theorem d155_46 : decode cX6_ifSplit 46 = .ok (.invokestatic 145, 3) := by decide +kernel
theorem z155_46 {w : pm_H} {b0 b1 b2 b3 b4 : Option Value} {x0 : Nat} {x1 : Int32} {x2 : Nat} : pm_ev 155 46 [b0, b1, b2, b3, b4] [.ref x0, .int x1, .ref x2] w = pm_k 155 49 [b0, b1, b2, b3, b4] [.int x1, .ref x2] (pm_call 113 [.ref x0] w) := pm_ns pt_155 pt_113 pt_M_6_145 (Or.inl rfl) d155_46 ⟨rfl, rfl⟩ ⟨⟨rfl, Nat.le_of_ble_eq_true rfl, Nat.le_of_ble_eq_true rfl, Nat.le_of_ble_eq_true rfl, Nat.le_of_ble_eq_true rfl⟩, rfl⟩
theorem d155_49 : decode cX6_ifSplit 49 = .ok (.iload_n 1, 1) := by decide +kernel
theorem z155_49 {st : List Value} {w : pm_H} {b0 b2 b3 b4 : Option Value} {x0 : Int32} : pm_ev 155 49 [b0, some (.int x0), b2, b3, b4] st w = pm_ev 155 50 [b0, some (.int x0), b2, b3, b4] (.int x0 :: st) w := pm_ny pt_155 d155_49 rfl rfl rfl
theorem d155_50 : decode cX6_ifSplit 50 = .ok (.invokevirtual 277, 3) := by decide +kernel
theorem z155_50 {w : pm_H} {b0 b1 b2 b3 b4 : Option Value} {x0 : Int32} {x1 : Int32} {x2 : Int32} {x3 : Nat} : pm_ev 155 50 [b0, b1, b2, b3, b4] [.int x0, .int x1, .int x2, .ref x3] w = pm_k 155 53 [b0, b1, b2, b3, b4] [] (pm_vc (w x3) 6 (pm_call 157 [.ref x3, .int x2, .int x1, .int x0] w)) := pm_nv pt_155 pt_157 pt_M_6_277 d155_50 ⟨rfl, rfl⟩ ⟨⟨rfl, Nat.le_of_ble_eq_true rfl, Nat.le_of_ble_eq_true rfl, Nat.le_of_ble_eq_true rfl, Nat.le_of_ble_eq_true rfl⟩, rfl⟩
theorem d155_53 : decode cX6_ifSplit 53 = .ok (.aload_n 0, 1) := by decide +kernel
theorem z155_53 {st : List Value} {w : pm_H} {b1 b2 b3 b4 : Option Value} {x0 : Nat} : pm_ev 155 53 [some (.ref x0), b1, b2, b3, b4] st w = pm_ev 155 54 [some (.ref x0), b1, b2, b3, b4] (.ref x0 :: st) w := pm_ny pt_155 d155_53 rfl rfl rfl
theorem d155_54 : decode cX6_ifSplit 54 = .ok (.iload_n 2, 1) := by decide +kernel
theorem z155_54 {st : List Value} {w : pm_H} {b0 b1 b3 b4 : Option Value} {x0 : Int32} : pm_ev 155 54 [b0, b1, some (.int x0), b3, b4] st w = pm_ev 155 55 [b0, b1, some (.int x0), b3, b4] (.int x0 :: st) w := pm_ny pt_155 d155_54 rfl rfl rfl
theorem d155_55 : decode cX6_ifSplit 55 = .ok (.iload_n 3, 1) := by decide +kernel
theorem z155_55 {st : List Value} {w : pm_H} {b0 b1 b2 b4 : Option Value} {x0 : Int32} : pm_ev 155 55 [b0, b1, b2, some (.int x0), b4] st w = pm_ev 155 56 [b0, b1, b2, some (.int x0), b4] (.int x0 :: st) w := pm_ny pt_155 d155_55 rfl rfl rfl
theorem d155_56 : decode cX6_ifSplit 56 = .ok (.iconst (-1), 1) := by decide +kernel
theorem z155_56 {st : List Value} {w : pm_H} {pl : pm_L} : pm_ev 155 56 pl st w = pm_ev 155 57 pl (.int (-1) :: st) w := pm_ny pt_155 d155_56 rfl rfl rfl
theorem d155_57 : decode cX6_ifSplit 57 = .ok (.invokevirtual 263, 3) := by decide +kernel
theorem z155_57 {w : pm_H} {b0 b1 b2 b3 b4 : Option Value} {x0 : Int32} {x1 : Int32} {x2 : Int32} {x3 : Nat} : pm_ev 155 57 [b0, b1, b2, b3, b4] [.int x0, .int x1, .int x2, .ref x3] w = pm_k 155 60 [b0, b1, b2, b3, b4] [] (pm_vc (w x3) 6 (pm_call 143 [.ref x3, .int x2, .int x1, .int x0] w)) := pm_nv pt_155 pt_143 pt_M_6_263 d155_57 ⟨rfl, rfl⟩ ⟨⟨rfl, Nat.le_of_ble_eq_true rfl, Nat.le_of_ble_eq_true rfl, Nat.le_of_ble_eq_true rfl, Nat.le_of_ble_eq_true rfl⟩, rfl⟩
theorem d155_60 : decode cX6_ifSplit 60 = .ok (.istore 4, 2) := by decide +kernel
theorem z155_60 {st : List Value} {w : pm_H} {b0 b1 b2 b4 : Option Value} {x0 : Int32} {x9 : Int32} : pm_ev 155 60 [b0, b1, b2, some (.int x9), b4] (.int x0 :: st) w = pm_ev 155 62 [b0, b1, b2, some (.int x9), some (.int x0)] st w := pm_ny pt_155 d155_60 rfl rfl rfl
theorem d155_62 : decode cX6_ifSplit 62 = .ok (.aload_n 0, 1) := by decide +kernel
theorem z155_62 {st : List Value} {w : pm_H} {b1 b2 b3 b4 : Option Value} {x0 : Nat} : pm_ev 155 62 [some (.ref x0), b1, b2, b3, b4] st w = pm_ev 155 63 [some (.ref x0), b1, b2, b3, b4] (.ref x0 :: st) w := pm_ny pt_155 d155_62 rfl rfl rfl
theorem d155_63 : decode cX6_ifSplit 63 = .ok (.getfield 84, 3) := by decide +kernel
theorem z155_63 {st : List Value} {w : pm_H} {pl : pm_L} {x0 : Nat} : pm_ev 155 63 pl (.ref x0 :: st) w = pm_kv 155 66 pl st w (pm_gf (w x0) 6 11) := pm_ng pt_155 pt_F_6_84 d155_63
theorem d155_66 : decode cX6_ifSplit 66 = .ok (.bipush 9, 2) := by decide +kernel
theorem z155_66 {st : List Value} {w : pm_H} {pl : pm_L} : pm_ev 155 66 pl st w = pm_ev 155 68 pl (.int 9 :: st) w := pm_ny pt_155 d155_66 rfl rfl rfl
theorem d155_68 : decode cX6_ifSplit 68 = .ok (.dup2, 1) := by decide +kernel
theorem z155_68 {st : List Value} {w : pm_H} {pl : pm_L} {x0 : Int32} {x1 : Nat} : pm_ev 155 68 pl (.int x0 :: .ref x1 :: st) w = pm_ev 155 69 pl (.int x0 :: .ref x1 :: .int x0 :: .ref x1 :: st) w := pm_ny pt_155 d155_68 rfl rfl rfl
theorem d155_69 : decode cX6_ifSplit 69 = .ok (.iaload, 1) := by decide +kernel
theorem z155_69 {st : List Value} {w : pm_H} {pl : pm_L} {x0 : Nat} {x1 : Int32} : pm_ev 155 69 pl (.int x1 :: .ref x0 :: st) w = pm_kv 155 70 pl st w (pm_ia (w x0) 0 x1) := pm_nia pt_155 d155_69
theorem d155_70 : decode cX6_ifSplit 70 = .ok (.iconst 1, 1) := by decide +kernel
theorem z155_70 {st : List Value} {w : pm_H} {pl : pm_L} : pm_ev 155 70 pl st w = pm_ev 155 71 pl (.int 1 :: st) w := pm_ny pt_155 d155_70 rfl rfl rfl
theorem d155_71 : decode cX6_ifSplit 71 = .ok (.isub, 1) := by decide +kernel
theorem z155_71 {st : List Value} {w : pm_H} {pl : pm_L} {x0 x1 : Int32} : pm_ev 155 71 pl (.int x1 :: .int x0 :: st) w = pm_ev 155 72 pl (.int (x0 - x1) :: st) w := pm_ny pt_155 d155_71 rfl rfl rfl
theorem d155_72 : decode cX6_ifSplit 72 = .ok (.iastore, 1) := by decide +kernel
theorem z155_72 {st : List Value} {w : pm_H} {pl : pm_L} {x0 : Nat} {x1 : Int32} {x2 : Int32} : pm_ev 155 72 pl (.int x2 :: .int x1 :: .ref x0 :: st) w = pm_kw 155 73 pl st (pm_is w x0 (w x0) x1 x2) := pm_nis pt_155 d155_72
theorem d155_73 : decode cX6_ifSplit 73 = .ok (.iload 4, 2) := by decide +kernel
theorem z155_73 {st : List Value} {w : pm_H} {b0 b1 b2 b3 : Option Value} {x0 : Int32} : pm_ev 155 73 [b0, b1, b2, b3, some (.int x0)] st w = pm_ev 155 75 [b0, b1, b2, b3, some (.int x0)] (.int x0 :: st) w := pm_ny pt_155 d155_73 rfl rfl rfl
theorem d155_75 : decode cX6_ifSplit 75 = .ok (.ireturn, 1) := by decide +kernel
theorem z155_75 {w : pm_H} {pl : pm_L} {x0 : Int32} : pm_ev 155 75 pl [.int x0] w = some (some (.int x0), w) := pm_nr pt_155 d155_75 rfl
theorem d156_0 : decode cX6_isFull 0 = .ok (.aload_n 0, 1) := by decide +kernel
theorem z156_0 {st : List Value} {w : pm_H} {b1 : Option Value} {x0 : Nat} : pm_ev 156 0 [some (.ref x0), b1] st w = pm_ev 156 1 [some (.ref x0), b1] (.ref x0 :: st) w := pm_ny pt_156 d156_0 rfl rfl rfl
theorem d156_1 : decode cX6_isFull 1 = .ok (.getfield 84, 3) := by decide +kernel
theorem z156_1 {st : List Value} {w : pm_H} {pl : pm_L} {x0 : Nat} : pm_ev 156 1 pl (.ref x0 :: st) w = pm_kv 156 4 pl st w (pm_gf (w x0) 6 11) := pm_ng pt_156 pt_F_6_84 d156_1
theorem d156_4 : decode cX6_isFull 4 = .ok (.bipush 9, 2) := by decide +kernel
theorem z156_4 {st : List Value} {w : pm_H} {pl : pm_L} : pm_ev 156 4 pl st w = pm_ev 156 6 pl (.int 9 :: st) w := pm_ny pt_156 d156_4 rfl rfl rfl
theorem d156_6 : decode cX6_isFull 6 = .ok (.iaload, 1) := by decide +kernel
theorem z156_6 {st : List Value} {w : pm_H} {pl : pm_L} {x0 : Nat} {x1 : Int32} : pm_ev 156 6 pl (.int x1 :: .ref x0 :: st) w = pm_kv 156 7 pl st w (pm_ia (w x0) 0 x1) := pm_nia pt_156 d156_6
theorem d156_7 : decode cX6_isFull 7 = .ok (.bipush 20, 2) := by decide +kernel
theorem z156_7 {st : List Value} {w : pm_H} {pl : pm_L} : pm_ev 156 7 pl st w = pm_ev 156 9 pl (.int 20 :: st) w := pm_ny pt_156 d156_7 rfl rfl rfl
theorem d156_9 : decode cX6_isFull 9 = .ok (.if_icmp .eq 19, 3) := by decide +kernel
theorem z156_9 {st : List Value} {w : pm_H} {pl : pm_L} {x0 x1 : Int32} : pm_ev 156 9 pl (.int x1 :: .int x0 :: st) w = if x0 = x1 then pm_ev 156 28 pl st w else pm_ev 156 12 pl st w := pm_nif pt_156 d156_9 rfl rfl rfl
theorem d156_12 : decode cX6_isFull 12 = .ok (.iload_n 1, 1) := by decide +kernel
theorem z156_12 {st : List Value} {w : pm_H} {b0 : Option Value} {x0 : Int32} : pm_ev 156 12 [b0, some (.int x0)] st w = pm_ev 156 13 [b0, some (.int x0)] (.int x0 :: st) w := pm_ny pt_156 d156_12 rfl rfl rfl
theorem d156_13 : decode cX6_isFull 13 = .ok (.iconst 2, 1) := by decide +kernel
theorem z156_13 {st : List Value} {w : pm_H} {pl : pm_L} : pm_ev 156 13 pl st w = pm_ev 156 14 pl (.int 2 :: st) w := pm_ny pt_156 d156_13 rfl rfl rfl
theorem d156_14 : decode cX6_isFull 14 = .ok (.if_icmp .ne 18, 3) := by decide +kernel
theorem z156_14 {st : List Value} {w : pm_H} {pl : pm_L} {x0 x1 : Int32} : pm_ev 156 14 pl (.int x1 :: .int x0 :: st) w = if x0 = x1 then pm_ev 156 17 pl st w else pm_ev 156 32 pl st w := pm_nin (c := ¬ x0 = x1) pt_156 d156_14 rfl rfl rfl Iff.rfl
theorem d156_17 : decode cX6_isFull 17 = .ok (.aload_n 0, 1) := by decide +kernel
theorem z156_17 {st : List Value} {w : pm_H} {b1 : Option Value} {x0 : Nat} : pm_ev 156 17 [some (.ref x0), b1] st w = pm_ev 156 18 [some (.ref x0), b1] (.ref x0 :: st) w := pm_ny pt_156 d156_17 rfl rfl rfl
theorem d156_18 : decode cX6_isFull 18 = .ok (.getfield 84, 3) := by decide +kernel
theorem z156_18 {st : List Value} {w : pm_H} {pl : pm_L} {x0 : Nat} : pm_ev 156 18 pl (.ref x0 :: st) w = pm_kv 156 21 pl st w (pm_gf (w x0) 6 11) := pm_ng pt_156 pt_F_6_84 d156_18
theorem d156_21 : decode cX6_isFull 21 = .ok (.invokestatic 141, 3) := by decide +kernel
theorem z156_21 {w : pm_H} {b0 b1 : Option Value} {x0 : Nat} : pm_ev 156 21 [b0, b1] [.ref x0] w = pm_k 156 24 [b0, b1] [] (pm_call 111 [.ref x0] w) := pm_ns pt_156 pt_111 pt_M_6_141 (Or.inl rfl) d156_21 ⟨rfl, rfl⟩ ⟨⟨rfl, Nat.le_of_ble_eq_true rfl, Nat.le_of_ble_eq_true rfl, Nat.le_of_ble_eq_true rfl, Nat.le_of_ble_eq_true rfl⟩, rfl⟩
theorem d156_24 : decode cX6_isFull 24 = .ok (.iconst 3, 1) := by decide +kernel
theorem z156_24 {st : List Value} {w : pm_H} {pl : pm_L} : pm_ev 156 24 pl st w = pm_ev 156 25 pl (.int 3 :: st) w := pm_ny pt_156 d156_24 rfl rfl rfl
theorem d156_25 : decode cX6_isFull 25 = .ok (.if_icmp .ne 7, 3) := by decide +kernel
theorem z156_25 {st : List Value} {w : pm_H} {pl : pm_L} {x0 x1 : Int32} : pm_ev 156 25 pl (.int x1 :: .int x0 :: st) w = if x0 = x1 then pm_ev 156 28 pl st w else pm_ev 156 32 pl st w := pm_nin (c := ¬ x0 = x1) pt_156 d156_25 rfl rfl rfl Iff.rfl
theorem d156_28 : decode cX6_isFull 28 = .ok (.iconst 1, 1) := by decide +kernel
theorem z156_28 {st : List Value} {w : pm_H} {pl : pm_L} : pm_ev 156 28 pl st w = pm_ev 156 29 pl (.int 1 :: st) w := pm_ny pt_156 d156_28 rfl rfl rfl
theorem d156_29 : decode cX6_isFull 29 = .ok (.goto 4, 3) := by decide +kernel
theorem z156_29 {st : List Value} {w : pm_H} {pl : pm_L} : pm_ev 156 29 pl st w = pm_ev 156 33 pl st w := pm_ny pt_156 d156_29 rfl rfl rfl
theorem d156_32 : decode cX6_isFull 32 = .ok (.iconst 0, 1) := by decide +kernel
theorem z156_32 {st : List Value} {w : pm_H} {pl : pm_L} : pm_ev 156 32 pl st w = pm_ev 156 33 pl (.int 0 :: st) w := pm_ny pt_156 d156_32 rfl rfl rfl
theorem d156_33 : decode cX6_isFull 33 = .ok (.ireturn, 1) := by decide +kernel
theorem z156_33 {w : pm_H} {pl : pm_L} {x0 : Int32} : pm_ev 156 33 pl [.int x0] w = pm_zr x0 w := pm_nz pt_156 d156_33
theorem d157_0 : decode cX6_adds_ 0 = .ok (.bipush 10, 2) := by decide +kernel
theorem z157_0 {st : List Value} {w : pm_H} {pl : pm_L} : pm_ev 157 0 pl st w = pm_ev 157 2 pl (.int 10 :: st) w := pm_ny pt_157 d157_0 rfl rfl rfl
theorem d157_2 : decode cX6_adds_ 2 = .ok (.iconst 3, 1) := by decide +kernel
theorem z157_2 {st : List Value} {w : pm_H} {pl : pm_L} : pm_ev 157 2 pl st w = pm_ev 157 3 pl (.int 3 :: st) w := pm_ny pt_157 d157_2 rfl rfl rfl
theorem d157_3 : decode cX6_adds_ 3 = .ok (.aload_n 0, 1) := by decide +kernel
theorem z157_3 {st : List Value} {w : pm_H} {b1 b2 b3 b4 : Option Value} {x0 : Nat} : pm_ev 157 3 [some (.ref x0), b1, b2, b3, b4] st w = pm_ev 157 4 [some (.ref x0), b1, b2, b3, b4] (.ref x0 :: st) w := pm_ny pt_157 d157_3 rfl rfl rfl
theorem d157_4 : decode cX6_adds_ 4 = .ok (.getfield 84, 3) := by decide +kernel
theorem z157_4 {st : List Value} {w : pm_H} {pl : pm_L} {x0 : Nat} : pm_ev 157 4 pl (.ref x0 :: st) w = pm_kv 157 7 pl st w (pm_gf (w x0) 6 11) := pm_ng pt_157 pt_F_6_84 d157_4
theorem d157_7 : decode cX6_adds_ 7 = .ok (.bipush 9, 2) := by decide +kernel
theorem z157_7 {st : List Value} {w : pm_H} {pl : pm_L} : pm_ev 157 7 pl st w = pm_ev 157 9 pl (.int 9 :: st) w := pm_ny pt_157 d157_7 rfl rfl rfl
theorem d157_9 : decode cX6_adds_ 9 = .ok (.iaload, 1) := by decide +kernel
theorem z157_9 {st : List Value} {w : pm_H} {pl : pm_L} {x0 : Nat} {x1 : Int32} : pm_ev 157 9 pl (.int x1 :: .ref x0 :: st) w = pm_kv 157 10 pl st w (pm_ia (w x0) 0 x1) := pm_nia pt_157 d157_9
theorem d157_10 : decode cX6_adds_ 10 = .ok (.imul, 1) := by decide +kernel
theorem z157_10 {st : List Value} {w : pm_H} {pl : pm_L} {x0 x1 : Int32} : pm_ev 157 10 pl (.int x1 :: .int x0 :: st) w = pm_ev 157 11 pl (.int (x0 * x1) :: st) w := pm_ny pt_157 d157_10 rfl rfl rfl
theorem d157_11 : decode cX6_adds_ 11 = .ok (.iadd, 1) := by decide +kernel
theorem z157_11 {st : List Value} {w : pm_H} {pl : pm_L} {x0 x1 : Int32} : pm_ev 157 11 pl (.int x1 :: .int x0 :: st) w = pm_ev 157 12 pl (.int (x0 + x1) :: st) w := pm_ny pt_157 d157_11 rfl rfl rfl
theorem d157_12 : decode cX6_adds_ 12 = .ok (.istore 4, 2) := by decide +kernel
theorem z157_12 {st : List Value} {w : pm_H} {b0 b1 b2 b4 : Option Value} {x0 : Int32} {x9 : Int32} : pm_ev 157 12 [b0, b1, b2, some (.int x9), b4] (.int x0 :: st) w = pm_ev 157 14 [b0, b1, b2, some (.int x9), some (.int x0)] st w := pm_ny pt_157 d157_12 rfl rfl rfl
theorem d157_14 : decode cX6_adds_ 14 = .ok (.aload_n 0, 1) := by decide +kernel
theorem z157_14 {st : List Value} {w : pm_H} {b1 b2 b3 b4 : Option Value} {x0 : Nat} : pm_ev 157 14 [some (.ref x0), b1, b2, b3, b4] st w = pm_ev 157 15 [some (.ref x0), b1, b2, b3, b4] (.ref x0 :: st) w := pm_ny pt_157 d157_14 rfl rfl rfl
theorem d157_15 : decode cX6_adds_ 15 = .ok (.getfield 84, 3) := by decide +kernel
theorem z157_15 {st : List Value} {w : pm_H} {pl : pm_L} {x0 : Nat} : pm_ev 157 15 pl (.ref x0 :: st) w = pm_kv 157 18 pl st w (pm_gf (w x0) 6 11) := pm_ng pt_157 pt_F_6_84 d157_15
theorem d157_18 : decode cX6_adds_ 18 = .ok (.iload 4, 2) := by decide +kernel
theorem z157_18 {st : List Value} {w : pm_H} {b0 b1 b2 b3 : Option Value} {x0 : Int32} : pm_ev 157 18 [b0, b1, b2, b3, some (.int x0)] st w = pm_ev 157 20 [b0, b1, b2, b3, some (.int x0)] (.int x0 :: st) w := pm_ny pt_157 d157_18 rfl rfl rfl
theorem d157_20 : decode cX6_adds_ 20 = .ok (.iload_n 1, 1) := by decide +kernel
theorem z157_20 {st : List Value} {w : pm_H} {b0 b2 b3 b4 : Option Value} {x0 : Int32} : pm_ev 157 20 [b0, some (.int x0), b2, b3, b4] st w = pm_ev 157 21 [b0, some (.int x0), b2, b3, b4] (.int x0 :: st) w := pm_ny pt_157 d157_20 rfl rfl rfl
theorem d157_21 : decode cX6_adds_ 21 = .ok (.iastore, 1) := by decide +kernel
theorem z157_21 {st : List Value} {w : pm_H} {pl : pm_L} {x0 : Nat} {x1 : Int32} {x2 : Int32} : pm_ev 157 21 pl (.int x2 :: .int x1 :: .ref x0 :: st) w = pm_kw 157 22 pl st (pm_is w x0 (w x0) x1 x2) := pm_nis pt_157 d157_21
theorem d157_22 : decode cX6_adds_ 22 = .ok (.aload_n 0, 1) := by decide +kernel
theorem z157_22 {st : List Value} {w : pm_H} {b1 b2 b3 b4 : Option Value} {x0 : Nat} : pm_ev 157 22 [some (.ref x0), b1, b2, b3, b4] st w = pm_ev 157 23 [some (.ref x0), b1, b2, b3, b4] (.ref x0 :: st) w := pm_ny pt_157 d157_22 rfl rfl rfl
theorem d157_23 : decode cX6_adds_ 23 = .ok (.getfield 84, 3) := by decide +kernel
theorem z157_23 {st : List Value} {w : pm_H} {pl : pm_L} {x0 : Nat} : pm_ev 157 23 pl (.ref x0 :: st) w = pm_kv 157 26 pl st w (pm_gf (w x0) 6 11) := pm_ng pt_157 pt_F_6_84 d157_23
theorem d157_26 : decode cX6_adds_ 26 = .ok (.iload 4, 2) := by decide +kernel
theorem z157_26 {st : List Value} {w : pm_H} {b0 b1 b2 b3 : Option Value} {x0 : Int32} : pm_ev 157 26 [b0, b1, b2, b3, some (.int x0)] st w = pm_ev 157 28 [b0, b1, b2, b3, some (.int x0)] (.int x0 :: st) w := pm_ny pt_157 d157_26 rfl rfl rfl
theorem d157_28 : decode cX6_adds_ 28 = .ok (.iconst 1, 1) := by decide +kernel
theorem z157_28 {st : List Value} {w : pm_H} {pl : pm_L} : pm_ev 157 28 pl st w = pm_ev 157 29 pl (.int 1 :: st) w := pm_ny pt_157 d157_28 rfl rfl rfl
theorem d157_29 : decode cX6_adds_ 29 = .ok (.iadd, 1) := by decide +kernel
theorem z157_29 {st : List Value} {w : pm_H} {pl : pm_L} {x0 x1 : Int32} : pm_ev 157 29 pl (.int x1 :: .int x0 :: st) w = pm_ev 157 30 pl (.int (x0 + x1) :: st) w := pm_ny pt_157 d157_29 rfl rfl rfl
theorem d157_30 : decode cX6_adds_ 30 = .ok (.iload_n 2, 1) := by decide +kernel
theorem z157_30 {st : List Value} {w : pm_H} {b0 b1 b3 b4 : Option Value} {x0 : Int32} : pm_ev 157 30 [b0, b1, some (.int x0), b3, b4] st w = pm_ev 157 31 [b0, b1, some (.int x0), b3, b4] (.int x0 :: st) w := pm_ny pt_157 d157_30 rfl rfl rfl
theorem d157_31 : decode cX6_adds_ 31 = .ok (.iastore, 1) := by decide +kernel
theorem z157_31 {st : List Value} {w : pm_H} {pl : pm_L} {x0 : Nat} {x1 : Int32} {x2 : Int32} : pm_ev 157 31 pl (.int x2 :: .int x1 :: .ref x0 :: st) w = pm_kw 157 32 pl st (pm_is w x0 (w x0) x1 x2) := pm_nis pt_157 d157_31
theorem d157_32 : decode cX6_adds_ 32 = .ok (.aload_n 0, 1) := by decide +kernel
theorem z157_32 {st : List Value} {w : pm_H} {b1 b2 b3 b4 : Option Value} {x0 : Nat} : pm_ev 157 32 [some (.ref x0), b1, b2, b3, b4] st w = pm_ev 157 33 [some (.ref x0), b1, b2, b3, b4] (.ref x0 :: st) w := pm_ny pt_157 d157_32 rfl rfl rfl
theorem d157_33 : decode cX6_adds_ 33 = .ok (.getfield 84, 3) := by decide +kernel
theorem z157_33 {st : List Value} {w : pm_H} {pl : pm_L} {x0 : Nat} : pm_ev 157 33 pl (.ref x0 :: st) w = pm_kv 157 36 pl st w (pm_gf (w x0) 6 11) := pm_ng pt_157 pt_F_6_84 d157_33
theorem d157_36 : decode cX6_adds_ 36 = .ok (.iload 4, 2) := by decide +kernel
theorem z157_36 {st : List Value} {w : pm_H} {b0 b1 b2 b3 : Option Value} {x0 : Int32} : pm_ev 157 36 [b0, b1, b2, b3, some (.int x0)] st w = pm_ev 157 38 [b0, b1, b2, b3, some (.int x0)] (.int x0 :: st) w := pm_ny pt_157 d157_36 rfl rfl rfl
theorem d157_38 : decode cX6_adds_ 38 = .ok (.iconst 2, 1) := by decide +kernel
theorem z157_38 {st : List Value} {w : pm_H} {pl : pm_L} : pm_ev 157 38 pl st w = pm_ev 157 39 pl (.int 2 :: st) w := pm_ny pt_157 d157_38 rfl rfl rfl
theorem d157_39 : decode cX6_adds_ 39 = .ok (.iadd, 1) := by decide +kernel
theorem z157_39 {st : List Value} {w : pm_H} {pl : pm_L} {x0 x1 : Int32} : pm_ev 157 39 pl (.int x1 :: .int x0 :: st) w = pm_ev 157 40 pl (.int (x0 + x1) :: st) w := pm_ny pt_157 d157_39 rfl rfl rfl
theorem d157_40 : decode cX6_adds_ 40 = .ok (.iload_n 3, 1) := by decide +kernel
theorem z157_40 {st : List Value} {w : pm_H} {b0 b1 b2 b4 : Option Value} {x0 : Int32} : pm_ev 157 40 [b0, b1, b2, some (.int x0), b4] st w = pm_ev 157 41 [b0, b1, b2, some (.int x0), b4] (.int x0 :: st) w := pm_ny pt_157 d157_40 rfl rfl rfl
theorem d157_41 : decode cX6_adds_ 41 = .ok (.iastore, 1) := by decide +kernel
theorem z157_41 {st : List Value} {w : pm_H} {pl : pm_L} {x0 : Nat} {x1 : Int32} {x2 : Int32} : pm_ev 157 41 pl (.int x2 :: .int x1 :: .ref x0 :: st) w = pm_kw 157 42 pl st (pm_is w x0 (w x0) x1 x2) := pm_nis pt_157 d157_41
theorem d157_42 : decode cX6_adds_ 42 = .ok (.aload_n 0, 1) := by decide +kernel
theorem z157_42 {st : List Value} {w : pm_H} {b1 b2 b3 b4 : Option Value} {x0 : Nat} : pm_ev 157 42 [some (.ref x0), b1, b2, b3, b4] st w = pm_ev 157 43 [some (.ref x0), b1, b2, b3, b4] (.ref x0 :: st) w := pm_ny pt_157 d157_42 rfl rfl rfl
theorem d157_43 : decode cX6_adds_ 43 = .ok (.getfield 84, 3) := by decide +kernel
theorem z157_43 {st : List Value} {w : pm_H} {pl : pm_L} {x0 : Nat} : pm_ev 157 43 pl (.ref x0 :: st) w = pm_kv 157 46 pl st w (pm_gf (w x0) 6 11) := pm_ng pt_157 pt_F_6_84 d157_43
theorem d157_46 : decode cX6_adds_ 46 = .ok (.bipush 9, 2) := by decide +kernel
theorem z157_46 {st : List Value} {w : pm_H} {pl : pm_L} : pm_ev 157 46 pl st w = pm_ev 157 48 pl (.int 9 :: st) w := pm_ny pt_157 d157_46 rfl rfl rfl
theorem d157_48 : decode cX6_adds_ 48 = .ok (.dup2, 1) := by decide +kernel
theorem z157_48 {st : List Value} {w : pm_H} {pl : pm_L} {x0 : Int32} {x1 : Nat} : pm_ev 157 48 pl (.int x0 :: .ref x1 :: st) w = pm_ev 157 49 pl (.int x0 :: .ref x1 :: .int x0 :: .ref x1 :: st) w := pm_ny pt_157 d157_48 rfl rfl rfl
theorem d157_49 : decode cX6_adds_ 49 = .ok (.iaload, 1) := by decide +kernel
theorem z157_49 {st : List Value} {w : pm_H} {pl : pm_L} {x0 : Nat} {x1 : Int32} : pm_ev 157 49 pl (.int x1 :: .ref x0 :: st) w = pm_kv 157 50 pl st w (pm_ia (w x0) 0 x1) := pm_nia pt_157 d157_49
theorem d157_50 : decode cX6_adds_ 50 = .ok (.iconst 1, 1) := by decide +kernel
theorem z157_50 {st : List Value} {w : pm_H} {pl : pm_L} : pm_ev 157 50 pl st w = pm_ev 157 51 pl (.int 1 :: st) w := pm_ny pt_157 d157_50 rfl rfl rfl
theorem d157_51 : decode cX6_adds_ 51 = .ok (.iadd, 1) := by decide +kernel
theorem z157_51 {st : List Value} {w : pm_H} {pl : pm_L} {x0 x1 : Int32} : pm_ev 157 51 pl (.int x1 :: .int x0 :: st) w = pm_ev 157 52 pl (.int (x0 + x1) :: st) w := pm_ny pt_157 d157_51 rfl rfl rfl
theorem d157_52 : decode cX6_adds_ 52 = .ok (.iastore, 1) := by decide +kernel
theorem z157_52 {st : List Value} {w : pm_H} {pl : pm_L} {x0 : Nat} {x1 : Int32} {x2 : Int32} : pm_ev 157 52 pl (.int x2 :: .int x1 :: .ref x0 :: st) w = pm_kw 157 53 pl st (pm_is w x0 (w x0) x1 x2) := pm_nis pt_157 d157_52
theorem d157_53 : decode cX6_adds_ 53 = .ok (.return_, 1) := by decide +kernel
theorem z157_53 {w : pm_H} {pl : pm_L} : pm_ev 157 53 pl [] w = some (none, w) := pm_nr pt_157 d157_53 rfl
theorem d158_0 : decode cX6_tells 0 = .ok (.aload_n 0, 1) := by decide +kernel
theorem z158_0 {st : List Value} {w : pm_H} {b1 b2 b3 : Option Value} {x0 : Nat} : pm_ev 158 0 [some (.ref x0), b1, b2, b3] st w = pm_ev 158 1 [some (.ref x0), b1, b2, b3] (.ref x0 :: st) w := pm_ny pt_158 d158_0 rfl rfl rfl
theorem d158_1 : decode cX6_tells 1 = .ok (.iconst 0, 1) := by decide +kernel
theorem z158_1 {st : List Value} {w : pm_H} {pl : pm_L} : pm_ev 158 1 pl st w = pm_ev 158 2 pl (.int 0 :: st) w := pm_ny pt_158 d158_1 rfl rfl rfl
theorem d158_2 : decode cX6_tells 2 = .ok (.putfield 1, 3) := by decide +kernel
theorem z158_2 {st : List Value} {w : pm_H} {pl : pm_L} {x0 : Nat} {x1 : Int32} : pm_ev 158 2 pl (.int x1 :: .ref x0 :: st) w = pm_kw 158 5 pl st (pm_pf w x0 (w x0) 6 0 0 (.int x1)) := pm_np pt_158 pt_F_6_1 d158_2
theorem d158_5 : decode cX6_tells 5 = .ok (.iload_n 1, 1) := by decide +kernel
theorem z158_5 {st : List Value} {w : pm_H} {b0 b2 b3 : Option Value} {x0 : Int32} : pm_ev 158 5 [b0, some (.int x0), b2, b3] st w = pm_ev 158 6 [b0, some (.int x0), b2, b3] (.int x0 :: st) w := pm_ny pt_158 d158_5 rfl rfl rfl
theorem d158_6 : decode cX6_tells 6 = .ok (.iconst 0, 1) := by decide +kernel
theorem z158_6 {st : List Value} {w : pm_H} {pl : pm_L} : pm_ev 158 6 pl st w = pm_ev 158 7 pl (.int 0 :: st) w := pm_ny pt_158 d158_6 rfl rfl rfl
theorem d158_7 : decode cX6_tells 7 = .ok (.iconst 2, 1) := by decide +kernel
theorem z158_7 {st : List Value} {w : pm_H} {pl : pm_L} : pm_ev 158 7 pl st w = pm_ev 158 8 pl (.int 2 :: st) w := pm_ny pt_158 d158_7 rfl rfl rfl
theorem d158_8 : decode cX6_tells 8 = .ok (.invokestatic 110, 3) := by decide +kernel
theorem z158_8 {w : pm_H} {b0 b1 b2 b3 : Option Value} {x0 : Int32} {x1 : Int32} {x2 : Int32} : pm_ev 158 8 [b0, b1, b2, b3] [.int x0, .int x1, .int x2] w = pm_k 158 11 [b0, b1, b2, b3] [] (pm_call 96 [.int x2, .int x1, .int x0] w) := pm_ns pt_158 pt_96 pt_M_6_110 (Or.inl rfl) d158_8 ⟨rfl, rfl⟩ ⟨⟨rfl, Nat.le_of_ble_eq_true rfl, Nat.le_of_ble_eq_true rfl, Nat.le_of_ble_eq_true rfl, Nat.le_of_ble_eq_true rfl⟩, rfl⟩
theorem d158_11 : decode cX6_tells 11 = .ok (.ifCond .eq 45, 3) := by decide +kernel
theorem z158_11 {st : List Value} {w : pm_H} {pl : pm_L} {x0 : Int32} : pm_ev 158 11 pl (.int x0 :: st) w = if x0 = 0 then pm_ev 158 56 pl st w else pm_ev 158 14 pl st w := pm_nif pt_158 d158_11 rfl rfl rfl
theorem d158_14 : decode cX6_tells 14 = .ok (.iload_n 2, 1) := by decide +kernel
theorem z158_14 {st : List Value} {w : pm_H} {b0 b1 b3 : Option Value} {x0 : Int32} : pm_ev 158 14 [b0, b1, some (.int x0), b3] st w = pm_ev 158 15 [b0, b1, some (.int x0), b3] (.int x0 :: st) w := pm_ny pt_158 d158_14 rfl rfl rfl
theorem d158_15 : decode cX6_tells 15 = .ok (.aload_n 0, 1) := by decide +kernel
theorem z158_15 {st : List Value} {w : pm_H} {b1 b2 b3 : Option Value} {x0 : Nat} : pm_ev 158 15 [some (.ref x0), b1, b2, b3] st w = pm_ev 158 16 [some (.ref x0), b1, b2, b3] (.ref x0 :: st) w := pm_ny pt_158 d158_15 rfl rfl rfl
theorem d158_16 : decode cX6_tells 16 = .ok (.getfield 84, 3) := by decide +kernel
theorem z158_16 {st : List Value} {w : pm_H} {pl : pm_L} {x0 : Nat} : pm_ev 158 16 pl (.ref x0 :: st) w = pm_kv 158 19 pl st w (pm_gf (w x0) 6 11) := pm_ng pt_158 pt_F_6_84 d158_16
theorem d158_19 : decode cX6_tells 19 = .ok (.invokestatic 145, 3) := by decide +kernel
theorem z158_19 {w : pm_H} {b0 b1 b2 b3 : Option Value} {x0 : Nat} {x1 : Int32} : pm_ev 158 19 [b0, b1, b2, b3] [.ref x0, .int x1] w = pm_k 158 22 [b0, b1, b2, b3] [.int x1] (pm_call 113 [.ref x0] w) := pm_ns pt_158 pt_113 pt_M_6_145 (Or.inl rfl) d158_19 ⟨rfl, rfl⟩ ⟨⟨rfl, Nat.le_of_ble_eq_true rfl, Nat.le_of_ble_eq_true rfl, Nat.le_of_ble_eq_true rfl, Nat.le_of_ble_eq_true rfl⟩, rfl⟩
theorem d158_22 : decode cX6_tells 22 = .ok (.sipush 359, 3) := by decide +kernel
theorem z158_22 {st : List Value} {w : pm_H} {pl : pm_L} : pm_ev 158 22 pl st w = pm_ev 158 25 pl (.int 359 :: st) w := pm_ny pt_158 d158_22 rfl rfl rfl
theorem d158_25 : decode cX6_tells 25 = .ok (.invokestatic 110, 3) := by decide +kernel
theorem z158_25 {w : pm_H} {b0 b1 b2 b3 : Option Value} {x0 : Int32} {x1 : Int32} {x2 : Int32} : pm_ev 158 25 [b0, b1, b2, b3] [.int x0, .int x1, .int x2] w = pm_k 158 28 [b0, b1, b2, b3] [] (pm_call 96 [.int x2, .int x1, .int x0] w) := pm_ns pt_158 pt_96 pt_M_6_110 (Or.inl rfl) d158_25 ⟨rfl, rfl⟩ ⟨⟨rfl, Nat.le_of_ble_eq_true rfl, Nat.le_of_ble_eq_true rfl, Nat.le_of_ble_eq_true rfl, Nat.le_of_ble_eq_true rfl⟩, rfl⟩
theorem d158_28 : decode cX6_tells 28 = .ok (.ifCond .eq 28, 3) := by decide +kernel
theorem z158_28 {st : List Value} {w : pm_H} {pl : pm_L} {x0 : Int32} : pm_ev 158 28 pl (.int x0 :: st) w = if x0 = 0 then pm_ev 158 56 pl st w else pm_ev 158 31 pl st w := pm_nif pt_158 d158_28 rfl rfl rfl
theorem d158_31 : decode cX6_tells 31 = .ok (.iload_n 3, 1) := by decide +kernel
theorem z158_31 {st : List Value} {w : pm_H} {b0 b1 b2 : Option Value} {x0 : Int32} : pm_ev 158 31 [b0, b1, b2, some (.int x0)] st w = pm_ev 158 32 [b0, b1, b2, some (.int x0)] (.int x0 :: st) w := pm_ny pt_158 d158_31 rfl rfl rfl
theorem d158_32 : decode cX6_tells 32 = .ok (.iload_n 1, 1) := by decide +kernel
theorem z158_32 {st : List Value} {w : pm_H} {b0 b2 b3 : Option Value} {x0 : Int32} : pm_ev 158 32 [b0, some (.int x0), b2, b3] st w = pm_ev 158 33 [b0, some (.int x0), b2, b3] (.int x0 :: st) w := pm_ny pt_158 d158_32 rfl rfl rfl
theorem d158_33 : decode cX6_tells 33 = .ok (.iconst 2, 1) := by decide +kernel
theorem z158_33 {st : List Value} {w : pm_H} {pl : pm_L} : pm_ev 158 33 pl st w = pm_ev 158 34 pl (.int 2 :: st) w := pm_ny pt_158 d158_33 rfl rfl rfl
theorem d158_34 : decode cX6_tells 34 = .ok (.if_icmp .ne 7, 3) := by decide +kernel
theorem z158_34 {st : List Value} {w : pm_H} {pl : pm_L} {x0 x1 : Int32} : pm_ev 158 34 pl (.int x1 :: .int x0 :: st) w = if x0 = x1 then pm_ev 158 37 pl st w else pm_ev 158 41 pl st w := pm_nin (c := ¬ x0 = x1) pt_158 d158_34 rfl rfl rfl Iff.rfl
theorem d158_37 : decode cX6_tells 37 = .ok (.iconst 2, 1) := by decide +kernel
theorem z158_37 {st : List Value} {w : pm_H} {pl : pm_L} : pm_ev 158 37 pl st w = pm_ev 158 38 pl (.int 2 :: st) w := pm_ny pt_158 d158_37 rfl rfl rfl
theorem d158_38 : decode cX6_tells 38 = .ok (.goto 4, 3) := by decide +kernel
theorem z158_38 {st : List Value} {w : pm_H} {pl : pm_L} : pm_ev 158 38 pl st w = pm_ev 158 42 pl st w := pm_ny pt_158 d158_38 rfl rfl rfl
theorem d158_41 : decode cX6_tells 41 = .ok (.iconst 1, 1) := by decide +kernel
theorem z158_41 {st : List Value} {w : pm_H} {pl : pm_L} : pm_ev 158 41 pl st w = pm_ev 158 42 pl (.int 1 :: st) w := pm_ny pt_158 d158_41 rfl rfl rfl
theorem d158_42 : decode cX6_tells 42 = .ok (.aload_n 0, 1) := by decide +kernel
theorem z158_42 {st : List Value} {w : pm_H} {b1 b2 b3 : Option Value} {x0 : Nat} : pm_ev 158 42 [some (.ref x0), b1, b2, b3] st w = pm_ev 158 43 [some (.ref x0), b1, b2, b3] (.ref x0 :: st) w := pm_ny pt_158 d158_42 rfl rfl rfl
theorem d158_43 : decode cX6_tells 43 = .ok (.getfield 84, 3) := by decide +kernel
theorem z158_43 {st : List Value} {w : pm_H} {pl : pm_L} {x0 : Nat} : pm_ev 158 43 pl (.ref x0 :: st) w = pm_kv 158 46 pl st w (pm_gf (w x0) 6 11) := pm_ng pt_158 pt_F_6_84 d158_43
theorem d158_46 : decode cX6_tells 46 = .ok (.iload_n 1, 1) := by decide +kernel
theorem z158_46 {st : List Value} {w : pm_H} {b0 b2 b3 : Option Value} {x0 : Int32} : pm_ev 158 46 [b0, some (.int x0), b2, b3] st w = pm_ev 158 47 [b0, some (.int x0), b2, b3] (.int x0 :: st) w := pm_ny pt_158 d158_46 rfl rfl rfl
theorem d158_47 : decode cX6_tells 47 = .ok (.invokestatic 148, 3) := by decide +kernel
theorem z158_47 {w : pm_H} {b0 b1 b2 b3 : Option Value} {x0 : Int32} {x1 : Nat} {x2 : Int32} {x3 : Int32} : pm_ev 158 47 [b0, b1, b2, b3] [.int x0, .ref x1, .int x2, .int x3] w = pm_k 158 50 [b0, b1, b2, b3] [.int x2, .int x3] (pm_call 114 [.ref x1, .int x0] w) := pm_ns pt_158 pt_114 pt_M_6_148 (Or.inl rfl) d158_47 ⟨rfl, rfl⟩ ⟨⟨rfl, Nat.le_of_ble_eq_true rfl, Nat.le_of_ble_eq_true rfl, Nat.le_of_ble_eq_true rfl, Nat.le_of_ble_eq_true rfl⟩, rfl⟩
theorem d158_50 : decode cX6_tells 50 = .ok (.invokestatic 110, 3) := by decide +kernel
theorem z158_50 {w : pm_H} {b0 b1 b2 b3 : Option Value} {x0 : Int32} {x1 : Int32} {x2 : Int32} : pm_ev 158 50 [b0, b1, b2, b3] [.int x0, .int x1, .int x2] w = pm_k 158 53 [b0, b1, b2, b3] [] (pm_call 96 [.int x2, .int x1, .int x0] w) := pm_ns pt_158 pt_96 pt_M_6_110 (Or.inl rfl) d158_50 ⟨rfl, rfl⟩ ⟨⟨rfl, Nat.le_of_ble_eq_true rfl, Nat.le_of_ble_eq_true rfl, Nat.le_of_ble_eq_true rfl, Nat.le_of_ble_eq_true rfl⟩, rfl⟩
theorem d158_53 : decode cX6_tells 53 = .ok (.ifCond .ne 5, 3) := by decide +kernel
theorem z158_53 {st : List Value} {w : pm_H} {pl : pm_L} {x0 : Int32} : pm_ev 158 53 pl (.int x0 :: st) w = if x0 = 0 then pm_ev 158 56 pl st w else pm_ev 158 58 pl st w := pm_nin (c := ¬ x0 = 0) pt_158 d158_53 rfl rfl rfl Iff.rfl
theorem d158_56 : decode cX6_tells 56 = .ok (.iconst (-1), 1) := by decide +kernel
theorem z158_56 {st : List Value} {w : pm_H} {pl : pm_L} : pm_ev 158 56 pl st w = pm_ev 158 57 pl (.int (-1) :: st) w := pm_ny pt_158 d158_56 rfl rfl rfl
theorem d158_57 : decode cX6_tells 57 = .ok (.ireturn, 1) := by decide +kernel
theorem z158_57 {w : pm_H} {pl : pm_L} {x0 : Int32} : pm_ev 158 57 pl [.int x0] w = some (some (.int x0), w) := pm_nr pt_158 d158_57 rfl
theorem d158_58 : decode cX6_tells 58 = .ok (.aload_n 0, 1) := by decide +kernel
theorem z158_58 {st : List Value} {w : pm_H} {b1 b2 b3 : Option Value} {x0 : Nat} : pm_ev 158 58 [some (.ref x0), b1, b2, b3] st w = pm_ev 158 59 [some (.ref x0), b1, b2, b3] (.ref x0 :: st) w := pm_ny pt_158 d158_58 rfl rfl rfl
theorem d158_59 : decode cX6_tells 59 = .ok (.iload_n 1, 1) := by decide +kernel
theorem z158_59 {st : List Value} {w : pm_H} {b0 b2 b3 : Option Value} {x0 : Int32} : pm_ev 158 59 [b0, some (.int x0), b2, b3] st w = pm_ev 158 60 [b0, some (.int x0), b2, b3] (.int x0 :: st) w := pm_ny pt_158 d158_59 rfl rfl rfl
theorem d158_60 : decode cX6_tells 60 = .ok (.invokevirtual 274, 3) := by decide +kernel
theorem z158_60 {w : pm_H} {b0 b1 b2 b3 : Option Value} {x0 : Int32} {x1 : Nat} : pm_ev 158 60 [b0, b1, b2, b3] [.int x0, .ref x1] w = pm_k 158 63 [b0, b1, b2, b3] [] (pm_vc (w x1) 6 (pm_call 156 [.ref x1, .int x0] w)) := pm_nv pt_158 pt_156 pt_M_6_274 d158_60 ⟨rfl, rfl⟩ ⟨⟨rfl, Nat.le_of_ble_eq_true rfl, Nat.le_of_ble_eq_true rfl, Nat.le_of_ble_eq_true rfl, Nat.le_of_ble_eq_true rfl⟩, rfl⟩
theorem d158_63 : decode cX6_tells 63 = .ok (.ifCond .eq 6, 3) := by decide +kernel
theorem z158_63 {st : List Value} {w : pm_H} {pl : pm_L} {x0 : Int32} : pm_ev 158 63 pl (.int x0 :: st) w = if x0 = 0 then pm_ev 158 69 pl st w else pm_ev 158 66 pl st w := pm_nif pt_158 d158_63 rfl rfl rfl
theorem d158_66 : decode cX6_tells 66 = .ok (.bipush (-2), 2) := by decide +kernel
theorem z158_66 {st : List Value} {w : pm_H} {pl : pm_L} : pm_ev 158 66 pl st w = pm_ev 158 68 pl (.int (-2) :: st) w := pm_ny pt_158 d158_66 rfl rfl rfl
theorem d158_68 : decode cX6_tells 68 = .ok (.ireturn, 1) := by decide +kernel
theorem z158_68 {w : pm_H} {pl : pm_L} {x0 : Int32} : pm_ev 158 68 pl [.int x0] w = some (some (.int x0), w) := pm_nr pt_158 d158_68 rfl
theorem d158_69 : decode cX6_tells 69 = .ok (.aload_n 0, 1) := by decide +kernel
theorem z158_69 {st : List Value} {w : pm_H} {b1 b2 b3 : Option Value} {x0 : Nat} : pm_ev 158 69 [some (.ref x0), b1, b2, b3] st w = pm_ev 158 70 [some (.ref x0), b1, b2, b3] (.ref x0 :: st) w := pm_ny pt_158 d158_69 rfl rfl rfl
theorem d158_70 : decode cX6_tells 70 = .ok (.invokevirtual 280, 3) := by decide +kernel
theorem z158_70 {w : pm_H} {b0 b1 b2 b3 : Option Value} {x0 : Nat} : pm_ev 158 70 [b0, b1, b2, b3] [.ref x0] w = pm_k 158 73 [b0, b1, b2, b3] [] (pm_vc (w x0) 6 (pm_call 159 [.ref x0] w)) := pm_nv pt_158 pt_159 pt_M_6_280 d158_70 ⟨rfl, rfl⟩ ⟨⟨rfl, Nat.le_of_ble_eq_true rfl, Nat.le_of_ble_eq_true rfl, Nat.le_of_ble_eq_true rfl, Nat.le_of_ble_eq_true rfl⟩, rfl⟩
theorem d158_73 : decode cX6_tells 73 = .ok (.aload_n 0, 1) := by decide +kernel
theorem z158_73 {st : List Value} {w : pm_H} {b1 b2 b3 : Option Value} {x0 : Nat} : pm_ev 158 73 [some (.ref x0), b1, b2, b3] st w = pm_ev 158 74 [some (.ref x0), b1, b2, b3] (.ref x0 :: st) w := pm_ny pt_158 d158_73 rfl rfl rfl
theorem d158_74 : decode cX6_tells 74 = .ok (.iload_n 1, 1) := by decide +kernel
theorem z158_74 {st : List Value} {w : pm_H} {b0 b2 b3 : Option Value} {x0 : Int32} : pm_ev 158 74 [b0, some (.int x0), b2, b3] st w = pm_ev 158 75 [b0, some (.int x0), b2, b3] (.int x0 :: st) w := pm_ny pt_158 d158_74 rfl rfl rfl
theorem d158_75 : decode cX6_tells 75 = .ok (.iload_n 2, 1) := by decide +kernel
theorem z158_75 {st : List Value} {w : pm_H} {b0 b1 b3 : Option Value} {x0 : Int32} : pm_ev 158 75 [b0, b1, some (.int x0), b3] st w = pm_ev 158 76 [b0, b1, some (.int x0), b3] (.int x0 :: st) w := pm_ny pt_158 d158_75 rfl rfl rfl
theorem d158_76 : decode cX6_tells 76 = .ok (.iload_n 3, 1) := by decide +kernel
theorem z158_76 {st : List Value} {w : pm_H} {b0 b1 b2 : Option Value} {x0 : Int32} : pm_ev 158 76 [b0, b1, b2, some (.int x0)] st w = pm_ev 158 77 [b0, b1, b2, some (.int x0)] (.int x0 :: st) w := pm_ny pt_158 d158_76 rfl rfl rfl
theorem d158_77 : decode cX6_tells 77 = .ok (.invokevirtual 277, 3) := by decide +kernel
theorem z158_77 {w : pm_H} {b0 b1 b2 b3 : Option Value} {x0 : Int32} {x1 : Int32} {x2 : Int32} {x3 : Nat} : pm_ev 158 77 [b0, b1, b2, b3] [.int x0, .int x1, .int x2, .ref x3] w = pm_k 158 80 [b0, b1, b2, b3] [] (pm_vc (w x3) 6 (pm_call 157 [.ref x3, .int x2, .int x1, .int x0] w)) := pm_nv pt_158 pt_157 pt_M_6_277 d158_77 ⟨rfl, rfl⟩ ⟨⟨rfl, Nat.le_of_ble_eq_true rfl, Nat.le_of_ble_eq_true rfl, Nat.le_of_ble_eq_true rfl, Nat.le_of_ble_eq_true rfl⟩, rfl⟩
theorem d158_80 : decode cX6_tells 80 = .ok (.aload_n 0, 1) := by decide +kernel
theorem z158_80 {st : List Value} {w : pm_H} {b1 b2 b3 : Option Value} {x0 : Nat} : pm_ev 158 80 [some (.ref x0), b1, b2, b3] st w = pm_ev 158 81 [some (.ref x0), b1, b2, b3] (.ref x0 :: st) w := pm_ny pt_158 d158_80 rfl rfl rfl
theorem d158_81 : decode cX6_tells 81 = .ok (.getfield 84, 3) := by decide +kernel
theorem z158_81 {st : List Value} {w : pm_H} {pl : pm_L} {x0 : Nat} : pm_ev 158 81 pl (.ref x0 :: st) w = pm_kv 158 84 pl st w (pm_gf (w x0) 6 11) := pm_ng pt_158 pt_F_6_84 d158_81
theorem d158_84 : decode cX6_tells 84 = .ok (.bipush 9, 2) := by decide +kernel
theorem z158_84 {st : List Value} {w : pm_H} {pl : pm_L} : pm_ev 158 84 pl st w = pm_ev 158 86 pl (.int 9 :: st) w := pm_ny pt_158 d158_84 rfl rfl rfl
theorem d158_86 : decode cX6_tells 86 = .ok (.iaload, 1) := by decide +kernel
theorem z158_86 {st : List Value} {w : pm_H} {pl : pm_L} {x0 : Nat} {x1 : Int32} : pm_ev 158 86 pl (.int x1 :: .ref x0 :: st) w = pm_kv 158 87 pl st w (pm_ia (w x0) 0 x1) := pm_nia pt_158 d158_86
theorem d158_87 : decode cX6_tells 87 = .ok (.ireturn, 1) := by decide +kernel
theorem z158_87 {w : pm_H} {pl : pm_L} {x0 : Int32} : pm_ev 158 87 pl [.int x0] w = some (some (.int x0), w) := pm_nr pt_158 d158_87 rfl
theorem d159_0 : decode cX6_snap 0 = .ok (.aload_n 0, 1) := by decide +kernel
theorem z159_0 {st : List Value} {w : pm_H} {b1 : Option Value} {x0 : Nat} : pm_ev 159 0 [some (.ref x0), b1] st w = pm_ev 159 1 [some (.ref x0), b1] (.ref x0 :: st) w := pm_ny pt_159 d159_0 rfl rfl rfl
theorem d159_1 : decode cX6_snap 1 = .ok (.getfield 172, 3) := by decide +kernel
theorem z159_1 {st : List Value} {w : pm_H} {pl : pm_L} {x0 : Nat} : pm_ev 159 1 pl (.ref x0 :: st) w = pm_kv 159 4 pl st w (pm_gf (w x0) 6 14) := pm_ng pt_159 pt_F_6_172 d159_1
theorem d159_4 : decode cX6_snap 4 = .ok (.bipush 10, 2) := by decide +kernel
theorem z159_4 {st : List Value} {w : pm_H} {pl : pm_L} : pm_ev 159 4 pl st w = pm_ev 159 6 pl (.int 10 :: st) w := pm_ny pt_159 d159_4 rfl rfl rfl
theorem d159_6 : decode cX6_snap 6 = .ok (.if_icmp .ne 43, 3) := by decide +kernel
theorem z159_6 {st : List Value} {w : pm_H} {pl : pm_L} {x0 x1 : Int32} : pm_ev 159 6 pl (.int x1 :: .int x0 :: st) w = if x0 = x1 then pm_ev 159 9 pl st w else pm_ev 159 49 pl st w := pm_nin (c := ¬ x0 = x1) pt_159 d159_6 rfl rfl rfl Iff.rfl
theorem d159_9 : decode cX6_snap 9 = .ok (.iconst 0, 1) := by decide +kernel
theorem z159_9 {st : List Value} {w : pm_H} {pl : pm_L} : pm_ev 159 9 pl st w = pm_ev 159 10 pl (.int 0 :: st) w := pm_ny pt_159 d159_9 rfl rfl rfl
theorem d159_10 : decode cX6_snap 10 = .ok (.istore_n 1, 1) := by decide +kernel
theorem z159_10 {st : List Value} {w : pm_H} {b1 : Option Value} {x0 : Int32} {x9 : Nat} : pm_ev 159 10 [some (.ref x9), b1] (.int x0 :: st) w = pm_ev 159 11 [some (.ref x9), some (.int x0)] st w := pm_ny pt_159 d159_10 rfl rfl rfl
theorem d159_11 : decode cX6_snap 11 = .ok (.iload_n 1, 1) := by decide +kernel
theorem z159_11 {st : List Value} {w : pm_H} {b0 : Option Value} {x0 : Int32} : pm_ev 159 11 [b0, some (.int x0)] st w = pm_ev 159 12 [b0, some (.int x0)] (.int x0 :: st) w := pm_ny pt_159 d159_11 rfl rfl rfl
theorem d159_12 : decode cX6_snap 12 = .ok (.sipush 927, 3) := by decide +kernel
theorem z159_12 {st : List Value} {w : pm_H} {pl : pm_L} : pm_ev 159 12 pl st w = pm_ev 159 15 pl (.int 927 :: st) w := pm_ny pt_159 d159_12 rfl rfl rfl
theorem d159_15 : decode cX6_snap 15 = .ok (.if_icmp .ge 24, 3) := by decide +kernel
theorem z159_15 {st : List Value} {w : pm_H} {pl : pm_L} {x0 x1 : Int32} : pm_ev 159 15 pl (.int x1 :: .int x0 :: st) w = if x0 < x1 then pm_ev 159 18 pl st w else pm_ev 159 39 pl st w := pm_nin (c := x1 ≤ x0) pt_159 d159_15 rfl rfl rfl pm_ge
theorem d159_18 : decode cX6_snap 18 = .ok (.aload_n 0, 1) := by decide +kernel
theorem z159_18 {st : List Value} {w : pm_H} {b1 : Option Value} {x0 : Nat} : pm_ev 159 18 [some (.ref x0), b1] st w = pm_ev 159 19 [some (.ref x0), b1] (.ref x0 :: st) w := pm_ny pt_159 d159_18 rfl rfl rfl
theorem d159_19 : decode cX6_snap 19 = .ok (.getfield 90, 3) := by decide +kernel
theorem z159_19 {st : List Value} {w : pm_H} {pl : pm_L} {x0 : Nat} : pm_ev 159 19 pl (.ref x0 :: st) w = pm_kv 159 22 pl st w (pm_gf (w x0) 6 13) := pm_ng pt_159 pt_F_6_90 d159_19
theorem d159_22 : decode cX6_snap 22 = .ok (.iload_n 1, 1) := by decide +kernel
theorem z159_22 {st : List Value} {w : pm_H} {b0 : Option Value} {x0 : Int32} : pm_ev 159 22 [b0, some (.int x0)] st w = pm_ev 159 23 [b0, some (.int x0)] (.int x0 :: st) w := pm_ny pt_159 d159_22 rfl rfl rfl
theorem d159_23 : decode cX6_snap 23 = .ok (.aload_n 0, 1) := by decide +kernel
theorem z159_23 {st : List Value} {w : pm_H} {b1 : Option Value} {x0 : Nat} : pm_ev 159 23 [some (.ref x0), b1] st w = pm_ev 159 24 [some (.ref x0), b1] (.ref x0 :: st) w := pm_ny pt_159 d159_23 rfl rfl rfl
theorem d159_24 : decode cX6_snap 24 = .ok (.getfield 90, 3) := by decide +kernel
theorem z159_24 {st : List Value} {w : pm_H} {pl : pm_L} {x0 : Nat} : pm_ev 159 24 pl (.ref x0 :: st) w = pm_kv 159 27 pl st w (pm_gf (w x0) 6 13) := pm_ng pt_159 pt_F_6_90 d159_24
theorem d159_27 : decode cX6_snap 27 = .ok (.iload_n 1, 1) := by decide +kernel
theorem z159_27 {st : List Value} {w : pm_H} {b0 : Option Value} {x0 : Int32} : pm_ev 159 27 [b0, some (.int x0)] st w = pm_ev 159 28 [b0, some (.int x0)] (.int x0 :: st) w := pm_ny pt_159 d159_27 rfl rfl rfl
theorem d159_28 : decode cX6_snap 28 = .ok (.bipush 103, 2) := by decide +kernel
theorem z159_28 {st : List Value} {w : pm_H} {pl : pm_L} : pm_ev 159 28 pl st w = pm_ev 159 30 pl (.int 103 :: st) w := pm_ny pt_159 d159_28 rfl rfl rfl
theorem d159_30 : decode cX6_snap 30 = .ok (.iadd, 1) := by decide +kernel
theorem z159_30 {st : List Value} {w : pm_H} {pl : pm_L} {x0 x1 : Int32} : pm_ev 159 30 pl (.int x1 :: .int x0 :: st) w = pm_ev 159 31 pl (.int (x0 + x1) :: st) w := pm_ny pt_159 d159_30 rfl rfl rfl
theorem d159_31 : decode cX6_snap 31 = .ok (.iaload, 1) := by decide +kernel
theorem z159_31 {st : List Value} {w : pm_H} {pl : pm_L} {x0 : Nat} {x1 : Int32} : pm_ev 159 31 pl (.int x1 :: .ref x0 :: st) w = pm_kv 159 32 pl st w (pm_ia (w x0) 0 x1) := pm_nia pt_159 d159_31
theorem d159_32 : decode cX6_snap 32 = .ok (.iastore, 1) := by decide +kernel
theorem z159_32 {st : List Value} {w : pm_H} {pl : pm_L} {x0 : Nat} {x1 : Int32} {x2 : Int32} : pm_ev 159 32 pl (.int x2 :: .int x1 :: .ref x0 :: st) w = pm_kw 159 33 pl st (pm_is w x0 (w x0) x1 x2) := pm_nis pt_159 d159_32
theorem d159_33 : decode cX6_snap 33 = .ok (.iinc 1 1, 3) := by decide +kernel
theorem z159_33 {st : List Value} {w : pm_H}  {x0 : Int32} {x9 : Nat} : pm_ev 159 33 [some (.ref x9), some (.int x0)] st w = pm_ev 159 36 [some (.ref x9), some (.int (x0 + 1))] st w := pm_ny pt_159 d159_33 rfl rfl rfl
theorem d159_36 : decode cX6_snap 36 = .ok (.goto (-25), 3) := by decide +kernel
theorem z159_36 {st : List Value} {w : pm_H} {pl : pm_L} : pm_ev 159 36 pl st w = pm_ev 159 11 pl st w := pm_ny pt_159 d159_36 rfl rfl rfl
theorem d159_39 : decode cX6_snap 39 = .ok (.aload_n 0, 1) := by decide +kernel
theorem z159_39 {st : List Value} {w : pm_H} {b1 : Option Value} {x0 : Nat} : pm_ev 159 39 [some (.ref x0), b1] st w = pm_ev 159 40 [some (.ref x0), b1] (.ref x0 :: st) w := pm_ny pt_159 d159_39 rfl rfl rfl
theorem d159_40 : decode cX6_snap 40 = .ok (.dup, 1) := by decide +kernel
theorem z159_40 {st : List Value} {w : pm_H} {pl : pm_L} {x0 : Nat} : pm_ev 159 40 pl (.ref x0 :: st) w = pm_ev 159 41 pl (.ref x0 :: .ref x0 :: st) w := pm_ny pt_159 d159_40 rfl rfl rfl
theorem d159_41 : decode cX6_snap 41 = .ok (.getfield 172, 3) := by decide +kernel
theorem z159_41 {st : List Value} {w : pm_H} {pl : pm_L} {x0 : Nat} : pm_ev 159 41 pl (.ref x0 :: st) w = pm_kv 159 44 pl st w (pm_gf (w x0) 6 14) := pm_ng pt_159 pt_F_6_172 d159_41
theorem d159_44 : decode cX6_snap 44 = .ok (.iconst 1, 1) := by decide +kernel
theorem z159_44 {st : List Value} {w : pm_H} {pl : pm_L} : pm_ev 159 44 pl st w = pm_ev 159 45 pl (.int 1 :: st) w := pm_ny pt_159 d159_44 rfl rfl rfl
theorem d159_45 : decode cX6_snap 45 = .ok (.isub, 1) := by decide +kernel
theorem z159_45 {st : List Value} {w : pm_H} {pl : pm_L} {x0 x1 : Int32} : pm_ev 159 45 pl (.int x1 :: .int x0 :: st) w = pm_ev 159 46 pl (.int (x0 - x1) :: st) w := pm_ny pt_159 d159_45 rfl rfl rfl
theorem d159_46 : decode cX6_snap 46 = .ok (.putfield 172, 3) := by decide +kernel
theorem z159_46 {st : List Value} {w : pm_H} {pl : pm_L} {x0 : Nat} {x1 : Int32} : pm_ev 159 46 pl (.int x1 :: .ref x0 :: st) w = pm_kw 159 49 pl st (pm_pf w x0 (w x0) 6 14 0 (.int x1)) := pm_np pt_159 pt_F_6_172 d159_46
theorem d159_49 : decode cX6_snap 49 = .ok (.iconst 0, 1) := by decide +kernel
theorem z159_49 {st : List Value} {w : pm_H} {pl : pm_L} : pm_ev 159 49 pl st w = pm_ev 159 50 pl (.int 0 :: st) w := pm_ny pt_159 d159_49 rfl rfl rfl
theorem d159_50 : decode cX6_snap 50 = .ok (.istore_n 1, 1) := by decide +kernel
theorem z159_50 {st : List Value} {w : pm_H} {b1 : Option Value} {x0 : Int32} {x9 : Nat} : pm_ev 159 50 [some (.ref x9), b1] (.int x0 :: st) w = pm_ev 159 51 [some (.ref x9), some (.int x0)] st w := pm_ny pt_159 d159_50 rfl rfl rfl
theorem d159_51 : decode cX6_snap 51 = .ok (.iload_n 1, 1) := by decide +kernel
theorem z159_51 {st : List Value} {w : pm_H} {b0 : Option Value} {x0 : Int32} : pm_ev 159 51 [b0, some (.int x0)] st w = pm_ev 159 52 [b0, some (.int x0)] (.int x0 :: st) w := pm_ny pt_159 d159_51 rfl rfl rfl
theorem d159_52 : decode cX6_snap 52 = .ok (.bipush 103, 2) := by decide +kernel
theorem z159_52 {st : List Value} {w : pm_H} {pl : pm_L} : pm_ev 159 52 pl st w = pm_ev 159 54 pl (.int 103 :: st) w := pm_ny pt_159 d159_52 rfl rfl rfl
theorem d159_54 : decode cX6_snap 54 = .ok (.if_icmp .ge 29, 3) := by decide +kernel
theorem z159_54 {st : List Value} {w : pm_H} {pl : pm_L} {x0 x1 : Int32} : pm_ev 159 54 pl (.int x1 :: .int x0 :: st) w = if x0 < x1 then pm_ev 159 57 pl st w else pm_ev 159 83 pl st w := pm_nin (c := x1 ≤ x0) pt_159 d159_54 rfl rfl rfl pm_ge
theorem d159_57 : decode cX6_snap 57 = .ok (.aload_n 0, 1) := by decide +kernel
theorem z159_57 {st : List Value} {w : pm_H} {b1 : Option Value} {x0 : Nat} : pm_ev 159 57 [some (.ref x0), b1] st w = pm_ev 159 58 [some (.ref x0), b1] (.ref x0 :: st) w := pm_ny pt_159 d159_57 rfl rfl rfl
theorem d159_58 : decode cX6_snap 58 = .ok (.getfield 90, 3) := by decide +kernel
theorem z159_58 {st : List Value} {w : pm_H} {pl : pm_L} {x0 : Nat} : pm_ev 159 58 pl (.ref x0 :: st) w = pm_kv 159 61 pl st w (pm_gf (w x0) 6 13) := pm_ng pt_159 pt_F_6_90 d159_58
theorem d159_61 : decode cX6_snap 61 = .ok (.bipush 103, 2) := by decide +kernel
theorem z159_61 {st : List Value} {w : pm_H} {pl : pm_L} : pm_ev 159 61 pl st w = pm_ev 159 63 pl (.int 103 :: st) w := pm_ny pt_159 d159_61 rfl rfl rfl
theorem d159_63 : decode cX6_snap 63 = .ok (.aload_n 0, 1) := by decide +kernel
theorem z159_63 {st : List Value} {w : pm_H} {b1 : Option Value} {x0 : Nat} : pm_ev 159 63 [some (.ref x0), b1] st w = pm_ev 159 64 [some (.ref x0), b1] (.ref x0 :: st) w := pm_ny pt_159 d159_63 rfl rfl rfl
theorem d159_64 : decode cX6_snap 64 = .ok (.getfield 172, 3) := by decide +kernel
theorem z159_64 {st : List Value} {w : pm_H} {pl : pm_L} {x0 : Nat} : pm_ev 159 64 pl (.ref x0 :: st) w = pm_kv 159 67 pl st w (pm_gf (w x0) 6 14) := pm_ng pt_159 pt_F_6_172 d159_64
theorem d159_67 : decode cX6_snap 67 = .ok (.imul, 1) := by decide +kernel
theorem z159_67 {st : List Value} {w : pm_H} {pl : pm_L} {x0 x1 : Int32} : pm_ev 159 67 pl (.int x1 :: .int x0 :: st) w = pm_ev 159 68 pl (.int (x0 * x1) :: st) w := pm_ny pt_159 d159_67 rfl rfl rfl
theorem d159_68 : decode cX6_snap 68 = .ok (.iload_n 1, 1) := by decide +kernel
theorem z159_68 {st : List Value} {w : pm_H} {b0 : Option Value} {x0 : Int32} : pm_ev 159 68 [b0, some (.int x0)] st w = pm_ev 159 69 [b0, some (.int x0)] (.int x0 :: st) w := pm_ny pt_159 d159_68 rfl rfl rfl
theorem d159_69 : decode cX6_snap 69 = .ok (.iadd, 1) := by decide +kernel
theorem z159_69 {st : List Value} {w : pm_H} {pl : pm_L} {x0 x1 : Int32} : pm_ev 159 69 pl (.int x1 :: .int x0 :: st) w = pm_ev 159 70 pl (.int (x0 + x1) :: st) w := pm_ny pt_159 d159_69 rfl rfl rfl
theorem d159_70 : decode cX6_snap 70 = .ok (.aload_n 0, 1) := by decide +kernel
theorem z159_70 {st : List Value} {w : pm_H} {b1 : Option Value} {x0 : Nat} : pm_ev 159 70 [some (.ref x0), b1] st w = pm_ev 159 71 [some (.ref x0), b1] (.ref x0 :: st) w := pm_ny pt_159 d159_70 rfl rfl rfl
theorem d159_71 : decode cX6_snap 71 = .ok (.getfield 84, 3) := by decide +kernel
theorem z159_71 {st : List Value} {w : pm_H} {pl : pm_L} {x0 : Nat} : pm_ev 159 71 pl (.ref x0 :: st) w = pm_kv 159 74 pl st w (pm_gf (w x0) 6 11) := pm_ng pt_159 pt_F_6_84 d159_71
theorem d159_74 : decode cX6_snap 74 = .ok (.iload_n 1, 1) := by decide +kernel
theorem z159_74 {st : List Value} {w : pm_H} {b0 : Option Value} {x0 : Int32} : pm_ev 159 74 [b0, some (.int x0)] st w = pm_ev 159 75 [b0, some (.int x0)] (.int x0 :: st) w := pm_ny pt_159 d159_74 rfl rfl rfl
theorem d159_75 : decode cX6_snap 75 = .ok (.iaload, 1) := by decide +kernel
theorem z159_75 {st : List Value} {w : pm_H} {pl : pm_L} {x0 : Nat} {x1 : Int32} : pm_ev 159 75 pl (.int x1 :: .ref x0 :: st) w = pm_kv 159 76 pl st w (pm_ia (w x0) 0 x1) := pm_nia pt_159 d159_75
theorem d159_76 : decode cX6_snap 76 = .ok (.iastore, 1) := by decide +kernel
theorem z159_76 {st : List Value} {w : pm_H} {pl : pm_L} {x0 : Nat} {x1 : Int32} {x2 : Int32} : pm_ev 159 76 pl (.int x2 :: .int x1 :: .ref x0 :: st) w = pm_kw 159 77 pl st (pm_is w x0 (w x0) x1 x2) := pm_nis pt_159 d159_76
theorem d159_77 : decode cX6_snap 77 = .ok (.iinc 1 1, 3) := by decide +kernel
theorem z159_77 {st : List Value} {w : pm_H}  {x0 : Int32} {x9 : Nat} : pm_ev 159 77 [some (.ref x9), some (.int x0)] st w = pm_ev 159 80 [some (.ref x9), some (.int (x0 + 1))] st w := pm_ny pt_159 d159_77 rfl rfl rfl
theorem d159_80 : decode cX6_snap 80 = .ok (.goto (-29), 3) := by decide +kernel
theorem z159_80 {st : List Value} {w : pm_H} {pl : pm_L} : pm_ev 159 80 pl st w = pm_ev 159 51 pl st w := pm_ny pt_159 d159_80 rfl rfl rfl
theorem d159_83 : decode cX6_snap 83 = .ok (.aload_n 0, 1) := by decide +kernel
theorem z159_83 {st : List Value} {w : pm_H} {b1 : Option Value} {x0 : Nat} : pm_ev 159 83 [some (.ref x0), b1] st w = pm_ev 159 84 [some (.ref x0), b1] (.ref x0 :: st) w := pm_ny pt_159 d159_83 rfl rfl rfl
theorem d159_84 : decode cX6_snap 84 = .ok (.dup, 1) := by decide +kernel
theorem z159_84 {st : List Value} {w : pm_H} {pl : pm_L} {x0 : Nat} : pm_ev 159 84 pl (.ref x0 :: st) w = pm_ev 159 85 pl (.ref x0 :: .ref x0 :: st) w := pm_ny pt_159 d159_84 rfl rfl rfl
theorem d159_85 : decode cX6_snap 85 = .ok (.getfield 172, 3) := by decide +kernel
theorem z159_85 {st : List Value} {w : pm_H} {pl : pm_L} {x0 : Nat} : pm_ev 159 85 pl (.ref x0 :: st) w = pm_kv 159 88 pl st w (pm_gf (w x0) 6 14) := pm_ng pt_159 pt_F_6_172 d159_85
theorem d159_88 : decode cX6_snap 88 = .ok (.iconst 1, 1) := by decide +kernel
theorem z159_88 {st : List Value} {w : pm_H} {pl : pm_L} : pm_ev 159 88 pl st w = pm_ev 159 89 pl (.int 1 :: st) w := pm_ny pt_159 d159_88 rfl rfl rfl
theorem d159_89 : decode cX6_snap 89 = .ok (.iadd, 1) := by decide +kernel
theorem z159_89 {st : List Value} {w : pm_H} {pl : pm_L} {x0 x1 : Int32} : pm_ev 159 89 pl (.int x1 :: .int x0 :: st) w = pm_ev 159 90 pl (.int (x0 + x1) :: st) w := pm_ny pt_159 d159_89 rfl rfl rfl
theorem d159_90 : decode cX6_snap 90 = .ok (.putfield 172, 3) := by decide +kernel
theorem z159_90 {st : List Value} {w : pm_H} {pl : pm_L} {x0 : Nat} {x1 : Int32} : pm_ev 159 90 pl (.int x1 :: .ref x0 :: st) w = pm_kw 159 93 pl st (pm_pf w x0 (w x0) 6 14 0 (.int x1)) := pm_np pt_159 pt_F_6_172 d159_90
theorem d159_93 : decode cX6_snap 93 = .ok (.return_, 1) := by decide +kernel
theorem z159_93 {w : pm_H} {pl : pm_L} : pm_ev 159 93 pl [] w = some (none, w) := pm_nr pt_159 d159_93 rfl
theorem d160_0 : decode cX6_grants 0 = .ok (.aload_n 0, 1) := by decide +kernel
theorem z160_0 {st : List Value} {w : pm_H} {b1 b2 b3 b4 b5 : Option Value} {x0 : Nat} : pm_ev 160 0 [some (.ref x0), b1, b2, b3, b4, b5] st w = pm_ev 160 1 [some (.ref x0), b1, b2, b3, b4, b5] (.ref x0 :: st) w := pm_ny pt_160 d160_0 rfl rfl rfl
theorem d160_1 : decode cX6_grants 1 = .ok (.iconst 0, 1) := by decide +kernel
theorem z160_1 {st : List Value} {w : pm_H} {pl : pm_L} : pm_ev 160 1 pl st w = pm_ev 160 2 pl (.int 0 :: st) w := pm_ny pt_160 d160_1 rfl rfl rfl
theorem d160_2 : decode cX6_grants 2 = .ok (.putfield 1, 3) := by decide +kernel
theorem z160_2 {st : List Value} {w : pm_H} {pl : pm_L} {x0 : Nat} {x1 : Int32} : pm_ev 160 2 pl (.int x1 :: .ref x0 :: st) w = pm_kw 160 5 pl st (pm_pf w x0 (w x0) 6 0 0 (.int x1)) := pm_np pt_160 pt_F_6_1 d160_2
theorem d160_5 : decode cX6_grants 5 = .ok (.iload_n 1, 1) := by decide +kernel
theorem z160_5 {st : List Value} {w : pm_H} {b0 b2 b3 b4 b5 : Option Value} {x0 : Int32} : pm_ev 160 5 [b0, some (.int x0), b2, b3, b4, b5] st w = pm_ev 160 6 [b0, some (.int x0), b2, b3, b4, b5] (.int x0 :: st) w := pm_ny pt_160 d160_5 rfl rfl rfl
theorem d160_6 : decode cX6_grants 6 = .ok (.iconst 0, 1) := by decide +kernel
theorem z160_6 {st : List Value} {w : pm_H} {pl : pm_L} : pm_ev 160 6 pl st w = pm_ev 160 7 pl (.int 0 :: st) w := pm_ny pt_160 d160_6 rfl rfl rfl
theorem d160_7 : decode cX6_grants 7 = .ok (.iconst 3, 1) := by decide +kernel
theorem z160_7 {st : List Value} {w : pm_H} {pl : pm_L} : pm_ev 160 7 pl st w = pm_ev 160 8 pl (.int 3 :: st) w := pm_ny pt_160 d160_7 rfl rfl rfl
theorem d160_8 : decode cX6_grants 8 = .ok (.invokestatic 110, 3) := by decide +kernel
theorem z160_8 {w : pm_H} {b0 b1 b2 b3 b4 b5 : Option Value} {x0 : Int32} {x1 : Int32} {x2 : Int32} : pm_ev 160 8 [b0, b1, b2, b3, b4, b5] [.int x0, .int x1, .int x2] w = pm_k 160 11 [b0, b1, b2, b3, b4, b5] [] (pm_call 96 [.int x2, .int x1, .int x0] w) := pm_ns pt_160 pt_96 pt_M_6_110 (Or.inl rfl) d160_8 ⟨rfl, rfl⟩ ⟨⟨rfl, Nat.le_of_ble_eq_true rfl, Nat.le_of_ble_eq_true rfl, Nat.le_of_ble_eq_true rfl, Nat.le_of_ble_eq_true rfl⟩, rfl⟩
theorem d160_11 : decode cX6_grants 11 = .ok (.ifCond .eq 50, 3) := by decide +kernel
theorem z160_11 {st : List Value} {w : pm_H} {pl : pm_L} {x0 : Int32} : pm_ev 160 11 pl (.int x0 :: st) w = if x0 = 0 then pm_ev 160 61 pl st w else pm_ev 160 14 pl st w := pm_nif pt_160 d160_11 rfl rfl rfl
theorem d160_14 : decode cX6_grants 14 = .ok (.iload_n 2, 1) := by decide +kernel
theorem z160_14 {st : List Value} {w : pm_H} {b0 b1 b3 b4 b5 : Option Value} {x0 : Int32} : pm_ev 160 14 [b0, b1, some (.int x0), b3, b4, b5] st w = pm_ev 160 15 [b0, b1, some (.int x0), b3, b4, b5] (.int x0 :: st) w := pm_ny pt_160 d160_14 rfl rfl rfl
theorem d160_15 : decode cX6_grants 15 = .ok (.invokestatic 182, 3) := by decide +kernel
theorem z160_15 {w : pm_H} {b0 b1 b2 b3 b4 b5 : Option Value} {x0 : Int32} : pm_ev 160 15 [b0, b1, b2, b3, b4, b5] [.int x0] w = pm_k 160 18 [b0, b1, b2, b3, b4, b5] [] (pm_call 121 [.int x0] w) := pm_ns pt_160 pt_121 pt_M_6_182 (Or.inl rfl) d160_15 ⟨rfl, rfl⟩ ⟨⟨rfl, Nat.le_of_ble_eq_true rfl, Nat.le_of_ble_eq_true rfl, Nat.le_of_ble_eq_true rfl, Nat.le_of_ble_eq_true rfl⟩, rfl⟩
theorem d160_18 : decode cX6_grants 18 = .ok (.ifCond .eq 43, 3) := by decide +kernel
theorem z160_18 {st : List Value} {w : pm_H} {pl : pm_L} {x0 : Int32} : pm_ev 160 18 pl (.int x0 :: st) w = if x0 = 0 then pm_ev 160 61 pl st w else pm_ev 160 21 pl st w := pm_nif pt_160 d160_18 rfl rfl rfl
theorem d160_21 : decode cX6_grants 21 = .ok (.iload_n 3, 1) := by decide +kernel
theorem z160_21 {st : List Value} {w : pm_H} {b0 b1 b2 b4 b5 : Option Value} {x0 : Int32} : pm_ev 160 21 [b0, b1, b2, some (.int x0), b4, b5] st w = pm_ev 160 22 [b0, b1, b2, some (.int x0), b4, b5] (.int x0 :: st) w := pm_ny pt_160 d160_21 rfl rfl rfl
theorem d160_22 : decode cX6_grants 22 = .ok (.iconst 1, 1) := by decide +kernel
theorem z160_22 {st : List Value} {w : pm_H} {pl : pm_L} : pm_ev 160 22 pl st w = pm_ev 160 23 pl (.int 1 :: st) w := pm_ny pt_160 d160_22 rfl rfl rfl
theorem d160_23 : decode cX6_grants 23 = .ok (.sipush 9999, 3) := by decide +kernel
theorem z160_23 {st : List Value} {w : pm_H} {pl : pm_L} : pm_ev 160 23 pl st w = pm_ev 160 26 pl (.int 9999 :: st) w := pm_ny pt_160 d160_23 rfl rfl rfl
theorem d160_26 : decode cX6_grants 26 = .ok (.invokestatic 110, 3) := by decide +kernel
theorem z160_26 {w : pm_H} {b0 b1 b2 b3 b4 b5 : Option Value} {x0 : Int32} {x1 : Int32} {x2 : Int32} : pm_ev 160 26 [b0, b1, b2, b3, b4, b5] [.int x0, .int x1, .int x2] w = pm_k 160 29 [b0, b1, b2, b3, b4, b5] [] (pm_call 96 [.int x2, .int x1, .int x0] w) := pm_ns pt_160 pt_96 pt_M_6_110 (Or.inl rfl) d160_26 ⟨rfl, rfl⟩ ⟨⟨rfl, Nat.le_of_ble_eq_true rfl, Nat.le_of_ble_eq_true rfl, Nat.le_of_ble_eq_true rfl, Nat.le_of_ble_eq_true rfl⟩, rfl⟩
theorem d160_29 : decode cX6_grants 29 = .ok (.ifCond .eq 32, 3) := by decide +kernel
theorem z160_29 {st : List Value} {w : pm_H} {pl : pm_L} {x0 : Int32} : pm_ev 160 29 pl (.int x0 :: st) w = if x0 = 0 then pm_ev 160 61 pl st w else pm_ev 160 32 pl st w := pm_nif pt_160 d160_29 rfl rfl rfl
theorem d160_32 : decode cX6_grants 32 = .ok (.iload 4, 2) := by decide +kernel
theorem z160_32 {st : List Value} {w : pm_H} {b0 b1 b2 b3 b5 : Option Value} {x0 : Int32} : pm_ev 160 32 [b0, b1, b2, b3, some (.int x0), b5] st w = pm_ev 160 34 [b0, b1, b2, b3, some (.int x0), b5] (.int x0 :: st) w := pm_ny pt_160 d160_32 rfl rfl rfl
theorem d160_34 : decode cX6_grants 34 = .ok (.iload_n 1, 1) := by decide +kernel
theorem z160_34 {st : List Value} {w : pm_H} {b0 b2 b3 b4 b5 : Option Value} {x0 : Int32} : pm_ev 160 34 [b0, some (.int x0), b2, b3, b4, b5] st w = pm_ev 160 35 [b0, some (.int x0), b2, b3, b4, b5] (.int x0 :: st) w := pm_ny pt_160 d160_34 rfl rfl rfl
theorem d160_35 : decode cX6_grants 35 = .ok (.ifCond .ne 7, 3) := by decide +kernel
theorem z160_35 {st : List Value} {w : pm_H} {pl : pm_L} {x0 : Int32} : pm_ev 160 35 pl (.int x0 :: st) w = if x0 = 0 then pm_ev 160 38 pl st w else pm_ev 160 42 pl st w := pm_nin (c := ¬ x0 = 0) pt_160 d160_35 rfl rfl rfl Iff.rfl
theorem d160_38 : decode cX6_grants 38 = .ok (.iconst 1, 1) := by decide +kernel
theorem z160_38 {st : List Value} {w : pm_H} {pl : pm_L} : pm_ev 160 38 pl st w = pm_ev 160 39 pl (.int 1 :: st) w := pm_ny pt_160 d160_38 rfl rfl rfl
theorem d160_39 : decode cX6_grants 39 = .ok (.goto 4, 3) := by decide +kernel
theorem z160_39 {st : List Value} {w : pm_H} {pl : pm_L} : pm_ev 160 39 pl st w = pm_ev 160 43 pl st w := pm_ny pt_160 d160_39 rfl rfl rfl
theorem d160_42 : decode cX6_grants 42 = .ok (.iconst 0, 1) := by decide +kernel
theorem z160_42 {st : List Value} {w : pm_H} {pl : pm_L} : pm_ev 160 42 pl st w = pm_ev 160 43 pl (.int 0 :: st) w := pm_ny pt_160 d160_42 rfl rfl rfl
theorem d160_43 : decode cX6_grants 43 = .ok (.iload_n 1, 1) := by decide +kernel
theorem z160_43 {st : List Value} {w : pm_H} {b0 b2 b3 b4 b5 : Option Value} {x0 : Int32} : pm_ev 160 43 [b0, some (.int x0), b2, b3, b4, b5] st w = pm_ev 160 44 [b0, some (.int x0), b2, b3, b4, b5] (.int x0 :: st) w := pm_ny pt_160 d160_43 rfl rfl rfl
theorem d160_44 : decode cX6_grants 44 = .ok (.ifCond .ne 9, 3) := by decide +kernel
theorem z160_44 {st : List Value} {w : pm_H} {pl : pm_L} {x0 : Int32} : pm_ev 160 44 pl (.int x0 :: st) w = if x0 = 0 then pm_ev 160 47 pl st w else pm_ev 160 53 pl st w := pm_nin (c := ¬ x0 = 0) pt_160 d160_44 rfl rfl rfl Iff.rfl
theorem d160_47 : decode cX6_grants 47 = .ok (.sipush 9999, 3) := by decide +kernel
theorem z160_47 {st : List Value} {w : pm_H} {pl : pm_L} : pm_ev 160 47 pl st w = pm_ev 160 50 pl (.int 9999 :: st) w := pm_ny pt_160 d160_47 rfl rfl rfl
theorem d160_50 : decode cX6_grants 50 = .ok (.goto 5, 3) := by decide +kernel
theorem z160_50 {st : List Value} {w : pm_H} {pl : pm_L} : pm_ev 160 50 pl st w = pm_ev 160 55 pl st w := pm_ny pt_160 d160_50 rfl rfl rfl
theorem d160_53 : decode cX6_grants 53 = .ok (.ldc 117, 2) := by decide +kernel
theorem z160_53 {st : List Value} {w : pm_H} {pl : pm_L} : pm_ev 160 53 pl st w = pm_ev 160 55 pl (.int (99999) :: st) w := pm_nk pt_160 pt_K_6_117 (by decide) d160_53
theorem d160_55 : decode cX6_grants 55 = .ok (.invokestatic 110, 3) := by decide +kernel
theorem z160_55 {w : pm_H} {b0 b1 b2 b3 b4 b5 : Option Value} {x0 : Int32} {x1 : Int32} {x2 : Int32} : pm_ev 160 55 [b0, b1, b2, b3, b4, b5] [.int x0, .int x1, .int x2] w = pm_k 160 58 [b0, b1, b2, b3, b4, b5] [] (pm_call 96 [.int x2, .int x1, .int x0] w) := pm_ns pt_160 pt_96 pt_M_6_110 (Or.inl rfl) d160_55 ⟨rfl, rfl⟩ ⟨⟨rfl, Nat.le_of_ble_eq_true rfl, Nat.le_of_ble_eq_true rfl, Nat.le_of_ble_eq_true rfl, Nat.le_of_ble_eq_true rfl⟩, rfl⟩
theorem d160_58 : decode cX6_grants 58 = .ok (.ifCond .ne 5, 3) := by decide +kernel
theorem z160_58 {st : List Value} {w : pm_H} {pl : pm_L} {x0 : Int32} : pm_ev 160 58 pl (.int x0 :: st) w = if x0 = 0 then pm_ev 160 61 pl st w else pm_ev 160 63 pl st w := pm_nin (c := ¬ x0 = 0) pt_160 d160_58 rfl rfl rfl Iff.rfl
theorem d160_61 : decode cX6_grants 61 = .ok (.iconst (-1), 1) := by decide +kernel
theorem z160_61 {st : List Value} {w : pm_H} {pl : pm_L} : pm_ev 160 61 pl st w = pm_ev 160 62 pl (.int (-1) :: st) w := pm_ny pt_160 d160_61 rfl rfl rfl
theorem d160_62 : decode cX6_grants 62 = .ok (.ireturn, 1) := by decide +kernel
theorem z160_62 {w : pm_H} {pl : pm_L} {x0 : Int32} : pm_ev 160 62 pl [.int x0] w = some (some (.int x0), w) := pm_nr pt_160 d160_62 rfl
theorem d160_63 : decode cX6_grants 63 = .ok (.aload_n 0, 1) := by decide +kernel
theorem z160_63 {st : List Value} {w : pm_H} {b1 b2 b3 b4 b5 : Option Value} {x0 : Nat} : pm_ev 160 63 [some (.ref x0), b1, b2, b3, b4, b5] st w = pm_ev 160 64 [some (.ref x0), b1, b2, b3, b4, b5] (.ref x0 :: st) w := pm_ny pt_160 d160_63 rfl rfl rfl
theorem d160_64 : decode cX6_grants 64 = .ok (.getfield 84, 3) := by decide +kernel
theorem z160_64 {st : List Value} {w : pm_H} {pl : pm_L} {x0 : Nat} : pm_ev 160 64 pl (.ref x0 :: st) w = pm_kv 160 67 pl st w (pm_gf (w x0) 6 11) := pm_ng pt_160 pt_F_6_84 d160_64
theorem d160_67 : decode cX6_grants 67 = .ok (.bipush 70, 2) := by decide +kernel
theorem z160_67 {st : List Value} {w : pm_H} {pl : pm_L} : pm_ev 160 67 pl st w = pm_ev 160 69 pl (.int 70 :: st) w := pm_ny pt_160 d160_67 rfl rfl rfl
theorem d160_69 : decode cX6_grants 69 = .ok (.iaload, 1) := by decide +kernel
theorem z160_69 {st : List Value} {w : pm_H} {pl : pm_L} {x0 : Nat} {x1 : Int32} : pm_ev 160 69 pl (.int x1 :: .ref x0 :: st) w = pm_kv 160 70 pl st w (pm_ia (w x0) 0 x1) := pm_nia pt_160 d160_69
theorem d160_70 : decode cX6_grants 70 = .ok (.bipush 8, 2) := by decide +kernel
theorem z160_70 {st : List Value} {w : pm_H} {pl : pm_L} : pm_ev 160 70 pl st w = pm_ev 160 72 pl (.int 8 :: st) w := pm_ny pt_160 d160_70 rfl rfl rfl
theorem d160_72 : decode cX6_grants 72 = .ok (.if_icmp .ne 6, 3) := by decide +kernel
theorem z160_72 {st : List Value} {w : pm_H} {pl : pm_L} {x0 x1 : Int32} : pm_ev 160 72 pl (.int x1 :: .int x0 :: st) w = if x0 = x1 then pm_ev 160 75 pl st w else pm_ev 160 78 pl st w := pm_nin (c := ¬ x0 = x1) pt_160 d160_72 rfl rfl rfl Iff.rfl
theorem d160_75 : decode cX6_grants 75 = .ok (.bipush (-2), 2) := by decide +kernel
theorem z160_75 {st : List Value} {w : pm_H} {pl : pm_L} : pm_ev 160 75 pl st w = pm_ev 160 77 pl (.int (-2) :: st) w := pm_ny pt_160 d160_75 rfl rfl rfl
theorem d160_77 : decode cX6_grants 77 = .ok (.ireturn, 1) := by decide +kernel
theorem z160_77 {w : pm_H} {pl : pm_L} {x0 : Int32} : pm_ev 160 77 pl [.int x0] w = some (some (.int x0), w) := pm_nr pt_160 d160_77 rfl
theorem d160_78 : decode cX6_grants 78 = .ok (.aload_n 0, 1) := by decide +kernel
theorem z160_78 {st : List Value} {w : pm_H} {b1 b2 b3 b4 b5 : Option Value} {x0 : Nat} : pm_ev 160 78 [some (.ref x0), b1, b2, b3, b4, b5] st w = pm_ev 160 79 [some (.ref x0), b1, b2, b3, b4, b5] (.ref x0 :: st) w := pm_ny pt_160 d160_78 rfl rfl rfl
theorem d160_79 : decode cX6_grants 79 = .ok (.invokevirtual 280, 3) := by decide +kernel
theorem z160_79 {w : pm_H} {b0 b1 b2 b3 b4 b5 : Option Value} {x0 : Nat} : pm_ev 160 79 [b0, b1, b2, b3, b4, b5] [.ref x0] w = pm_k 160 82 [b0, b1, b2, b3, b4, b5] [] (pm_vc (w x0) 6 (pm_call 159 [.ref x0] w)) := pm_nv pt_160 pt_159 pt_M_6_280 d160_79 ⟨rfl, rfl⟩ ⟨⟨rfl, Nat.le_of_ble_eq_true rfl, Nat.le_of_ble_eq_true rfl, Nat.le_of_ble_eq_true rfl, Nat.le_of_ble_eq_true rfl⟩, rfl⟩
theorem d160_82 : decode cX6_grants 82 = .ok (.bipush 71, 2) := by decide +kernel
theorem z160_82 {st : List Value} {w : pm_H} {pl : pm_L} : pm_ev 160 82 pl st w = pm_ev 160 84 pl (.int 71 :: st) w := pm_ny pt_160 d160_82 rfl rfl rfl
theorem d160_84 : decode cX6_grants 84 = .ok (.iconst 4, 1) := by decide +kernel
theorem z160_84 {st : List Value} {w : pm_H} {pl : pm_L} : pm_ev 160 84 pl st w = pm_ev 160 85 pl (.int 4 :: st) w := pm_ny pt_160 d160_84 rfl rfl rfl
theorem d160_85 : decode cX6_grants 85 = .ok (.aload_n 0, 1) := by decide +kernel
theorem z160_85 {st : List Value} {w : pm_H} {b1 b2 b3 b4 b5 : Option Value} {x0 : Nat} : pm_ev 160 85 [some (.ref x0), b1, b2, b3, b4, b5] st w = pm_ev 160 86 [some (.ref x0), b1, b2, b3, b4, b5] (.ref x0 :: st) w := pm_ny pt_160 d160_85 rfl rfl rfl
theorem d160_86 : decode cX6_grants 86 = .ok (.getfield 84, 3) := by decide +kernel
theorem z160_86 {st : List Value} {w : pm_H} {pl : pm_L} {x0 : Nat} : pm_ev 160 86 pl (.ref x0 :: st) w = pm_kv 160 89 pl st w (pm_gf (w x0) 6 11) := pm_ng pt_160 pt_F_6_84 d160_86
theorem d160_89 : decode cX6_grants 89 = .ok (.bipush 70, 2) := by decide +kernel
theorem z160_89 {st : List Value} {w : pm_H} {pl : pm_L} : pm_ev 160 89 pl st w = pm_ev 160 91 pl (.int 70 :: st) w := pm_ny pt_160 d160_89 rfl rfl rfl
theorem d160_91 : decode cX6_grants 91 = .ok (.iaload, 1) := by decide +kernel
theorem z160_91 {st : List Value} {w : pm_H} {pl : pm_L} {x0 : Nat} {x1 : Int32} : pm_ev 160 91 pl (.int x1 :: .ref x0 :: st) w = pm_kv 160 92 pl st w (pm_ia (w x0) 0 x1) := pm_nia pt_160 d160_91
theorem d160_92 : decode cX6_grants 92 = .ok (.imul, 1) := by decide +kernel
theorem z160_92 {st : List Value} {w : pm_H} {pl : pm_L} {x0 x1 : Int32} : pm_ev 160 92 pl (.int x1 :: .int x0 :: st) w = pm_ev 160 93 pl (.int (x0 * x1) :: st) w := pm_ny pt_160 d160_92 rfl rfl rfl
theorem d160_93 : decode cX6_grants 93 = .ok (.iadd, 1) := by decide +kernel
theorem z160_93 {st : List Value} {w : pm_H} {pl : pm_L} {x0 x1 : Int32} : pm_ev 160 93 pl (.int x1 :: .int x0 :: st) w = pm_ev 160 94 pl (.int (x0 + x1) :: st) w := pm_ny pt_160 d160_93 rfl rfl rfl
theorem d160_94 : decode cX6_grants 94 = .ok (.istore 5, 2) := by decide +kernel
theorem z160_94 {st : List Value} {w : pm_H} {b0 b1 b2 b3 b5 : Option Value} {x0 : Int32} {x9 : Int32} : pm_ev 160 94 [b0, b1, b2, b3, some (.int x9), b5] (.int x0 :: st) w = pm_ev 160 96 [b0, b1, b2, b3, some (.int x9), some (.int x0)] st w := pm_ny pt_160 d160_94 rfl rfl rfl
theorem d160_96 : decode cX6_grants 96 = .ok (.aload_n 0, 1) := by decide +kernel
theorem z160_96 {st : List Value} {w : pm_H} {b1 b2 b3 b4 b5 : Option Value} {x0 : Nat} : pm_ev 160 96 [some (.ref x0), b1, b2, b3, b4, b5] st w = pm_ev 160 97 [some (.ref x0), b1, b2, b3, b4, b5] (.ref x0 :: st) w := pm_ny pt_160 d160_96 rfl rfl rfl
theorem d160_97 : decode cX6_grants 97 = .ok (.getfield 84, 3) := by decide +kernel
theorem z160_97 {st : List Value} {w : pm_H} {pl : pm_L} {x0 : Nat} : pm_ev 160 97 pl (.ref x0 :: st) w = pm_kv 160 100 pl st w (pm_gf (w x0) 6 11) := pm_ng pt_160 pt_F_6_84 d160_97
theorem d160_100 : decode cX6_grants 100 = .ok (.iload 5, 2) := by decide +kernel
theorem z160_100 {st : List Value} {w : pm_H} {b0 b1 b2 b3 b4 : Option Value} {x0 : Int32} : pm_ev 160 100 [b0, b1, b2, b3, b4, some (.int x0)] st w = pm_ev 160 102 [b0, b1, b2, b3, b4, some (.int x0)] (.int x0 :: st) w := pm_ny pt_160 d160_100 rfl rfl rfl
theorem d160_102 : decode cX6_grants 102 = .ok (.iload_n 1, 1) := by decide +kernel
theorem z160_102 {st : List Value} {w : pm_H} {b0 b2 b3 b4 b5 : Option Value} {x0 : Int32} : pm_ev 160 102 [b0, some (.int x0), b2, b3, b4, b5] st w = pm_ev 160 103 [b0, some (.int x0), b2, b3, b4, b5] (.int x0 :: st) w := pm_ny pt_160 d160_102 rfl rfl rfl
theorem d160_103 : decode cX6_grants 103 = .ok (.iastore, 1) := by decide +kernel
theorem z160_103 {st : List Value} {w : pm_H} {pl : pm_L} {x0 : Nat} {x1 : Int32} {x2 : Int32} : pm_ev 160 103 pl (.int x2 :: .int x1 :: .ref x0 :: st) w = pm_kw 160 104 pl st (pm_is w x0 (w x0) x1 x2) := pm_nis pt_160 d160_103
theorem d160_104 : decode cX6_grants 104 = .ok (.aload_n 0, 1) := by decide +kernel
theorem z160_104 {st : List Value} {w : pm_H} {b1 b2 b3 b4 b5 : Option Value} {x0 : Nat} : pm_ev 160 104 [some (.ref x0), b1, b2, b3, b4, b5] st w = pm_ev 160 105 [some (.ref x0), b1, b2, b3, b4, b5] (.ref x0 :: st) w := pm_ny pt_160 d160_104 rfl rfl rfl
theorem d160_105 : decode cX6_grants 105 = .ok (.getfield 84, 3) := by decide +kernel
theorem z160_105 {st : List Value} {w : pm_H} {pl : pm_L} {x0 : Nat} : pm_ev 160 105 pl (.ref x0 :: st) w = pm_kv 160 108 pl st w (pm_gf (w x0) 6 11) := pm_ng pt_160 pt_F_6_84 d160_105
theorem d160_108 : decode cX6_grants 108 = .ok (.iload 5, 2) := by decide +kernel
theorem z160_108 {st : List Value} {w : pm_H} {b0 b1 b2 b3 b4 : Option Value} {x0 : Int32} : pm_ev 160 108 [b0, b1, b2, b3, b4, some (.int x0)] st w = pm_ev 160 110 [b0, b1, b2, b3, b4, some (.int x0)] (.int x0 :: st) w := pm_ny pt_160 d160_108 rfl rfl rfl
theorem d160_110 : decode cX6_grants 110 = .ok (.iconst 1, 1) := by decide +kernel
theorem z160_110 {st : List Value} {w : pm_H} {pl : pm_L} : pm_ev 160 110 pl st w = pm_ev 160 111 pl (.int 1 :: st) w := pm_ny pt_160 d160_110 rfl rfl rfl
theorem d160_111 : decode cX6_grants 111 = .ok (.iadd, 1) := by decide +kernel
theorem z160_111 {st : List Value} {w : pm_H} {pl : pm_L} {x0 x1 : Int32} : pm_ev 160 111 pl (.int x1 :: .int x0 :: st) w = pm_ev 160 112 pl (.int (x0 + x1) :: st) w := pm_ny pt_160 d160_111 rfl rfl rfl
theorem d160_112 : decode cX6_grants 112 = .ok (.iload_n 2, 1) := by decide +kernel
theorem z160_112 {st : List Value} {w : pm_H} {b0 b1 b3 b4 b5 : Option Value} {x0 : Int32} : pm_ev 160 112 [b0, b1, some (.int x0), b3, b4, b5] st w = pm_ev 160 113 [b0, b1, some (.int x0), b3, b4, b5] (.int x0 :: st) w := pm_ny pt_160 d160_112 rfl rfl rfl
theorem d160_113 : decode cX6_grants 113 = .ok (.iastore, 1) := by decide +kernel
theorem z160_113 {st : List Value} {w : pm_H} {pl : pm_L} {x0 : Nat} {x1 : Int32} {x2 : Int32} : pm_ev 160 113 pl (.int x2 :: .int x1 :: .ref x0 :: st) w = pm_kw 160 114 pl st (pm_is w x0 (w x0) x1 x2) := pm_nis pt_160 d160_113
theorem d160_114 : decode cX6_grants 114 = .ok (.aload_n 0, 1) := by decide +kernel
theorem z160_114 {st : List Value} {w : pm_H} {b1 b2 b3 b4 b5 : Option Value} {x0 : Nat} : pm_ev 160 114 [some (.ref x0), b1, b2, b3, b4, b5] st w = pm_ev 160 115 [some (.ref x0), b1, b2, b3, b4, b5] (.ref x0 :: st) w := pm_ny pt_160 d160_114 rfl rfl rfl
theorem d160_115 : decode cX6_grants 115 = .ok (.getfield 84, 3) := by decide +kernel
theorem z160_115 {st : List Value} {w : pm_H} {pl : pm_L} {x0 : Nat} : pm_ev 160 115 pl (.ref x0 :: st) w = pm_kv 160 118 pl st w (pm_gf (w x0) 6 11) := pm_ng pt_160 pt_F_6_84 d160_115
theorem d160_118 : decode cX6_grants 118 = .ok (.iload 5, 2) := by decide +kernel
theorem z160_118 {st : List Value} {w : pm_H} {b0 b1 b2 b3 b4 : Option Value} {x0 : Int32} : pm_ev 160 118 [b0, b1, b2, b3, b4, some (.int x0)] st w = pm_ev 160 120 [b0, b1, b2, b3, b4, some (.int x0)] (.int x0 :: st) w := pm_ny pt_160 d160_118 rfl rfl rfl
theorem d160_120 : decode cX6_grants 120 = .ok (.iconst 2, 1) := by decide +kernel
theorem z160_120 {st : List Value} {w : pm_H} {pl : pm_L} : pm_ev 160 120 pl st w = pm_ev 160 121 pl (.int 2 :: st) w := pm_ny pt_160 d160_120 rfl rfl rfl
theorem d160_121 : decode cX6_grants 121 = .ok (.iadd, 1) := by decide +kernel
theorem z160_121 {st : List Value} {w : pm_H} {pl : pm_L} {x0 x1 : Int32} : pm_ev 160 121 pl (.int x1 :: .int x0 :: st) w = pm_ev 160 122 pl (.int (x0 + x1) :: st) w := pm_ny pt_160 d160_121 rfl rfl rfl
theorem d160_122 : decode cX6_grants 122 = .ok (.iload_n 3, 1) := by decide +kernel
theorem z160_122 {st : List Value} {w : pm_H} {b0 b1 b2 b4 b5 : Option Value} {x0 : Int32} : pm_ev 160 122 [b0, b1, b2, some (.int x0), b4, b5] st w = pm_ev 160 123 [b0, b1, b2, some (.int x0), b4, b5] (.int x0 :: st) w := pm_ny pt_160 d160_122 rfl rfl rfl
theorem d160_123 : decode cX6_grants 123 = .ok (.iastore, 1) := by decide +kernel
theorem z160_123 {st : List Value} {w : pm_H} {pl : pm_L} {x0 : Nat} {x1 : Int32} {x2 : Int32} : pm_ev 160 123 pl (.int x2 :: .int x1 :: .ref x0 :: st) w = pm_kw 160 124 pl st (pm_is w x0 (w x0) x1 x2) := pm_nis pt_160 d160_123
theorem d160_124 : decode cX6_grants 124 = .ok (.aload_n 0, 1) := by decide +kernel
theorem z160_124 {st : List Value} {w : pm_H} {b1 b2 b3 b4 b5 : Option Value} {x0 : Nat} : pm_ev 160 124 [some (.ref x0), b1, b2, b3, b4, b5] st w = pm_ev 160 125 [some (.ref x0), b1, b2, b3, b4, b5] (.ref x0 :: st) w := pm_ny pt_160 d160_124 rfl rfl rfl
theorem d160_125 : decode cX6_grants 125 = .ok (.getfield 84, 3) := by decide +kernel
theorem z160_125 {st : List Value} {w : pm_H} {pl : pm_L} {x0 : Nat} : pm_ev 160 125 pl (.ref x0 :: st) w = pm_kv 160 128 pl st w (pm_gf (w x0) 6 11) := pm_ng pt_160 pt_F_6_84 d160_125
theorem d160_128 : decode cX6_grants 128 = .ok (.iload 5, 2) := by decide +kernel
theorem z160_128 {st : List Value} {w : pm_H} {b0 b1 b2 b3 b4 : Option Value} {x0 : Int32} : pm_ev 160 128 [b0, b1, b2, b3, b4, some (.int x0)] st w = pm_ev 160 130 [b0, b1, b2, b3, b4, some (.int x0)] (.int x0 :: st) w := pm_ny pt_160 d160_128 rfl rfl rfl
theorem d160_130 : decode cX6_grants 130 = .ok (.iconst 3, 1) := by decide +kernel
theorem z160_130 {st : List Value} {w : pm_H} {pl : pm_L} : pm_ev 160 130 pl st w = pm_ev 160 131 pl (.int 3 :: st) w := pm_ny pt_160 d160_130 rfl rfl rfl
theorem d160_131 : decode cX6_grants 131 = .ok (.iadd, 1) := by decide +kernel
theorem z160_131 {st : List Value} {w : pm_H} {pl : pm_L} {x0 x1 : Int32} : pm_ev 160 131 pl (.int x1 :: .int x0 :: st) w = pm_ev 160 132 pl (.int (x0 + x1) :: st) w := pm_ny pt_160 d160_131 rfl rfl rfl
theorem d160_132 : decode cX6_grants 132 = .ok (.iload 4, 2) := by decide +kernel
theorem z160_132 {st : List Value} {w : pm_H} {b0 b1 b2 b3 b5 : Option Value} {x0 : Int32} : pm_ev 160 132 [b0, b1, b2, b3, some (.int x0), b5] st w = pm_ev 160 134 [b0, b1, b2, b3, some (.int x0), b5] (.int x0 :: st) w := pm_ny pt_160 d160_132 rfl rfl rfl
theorem d160_134 : decode cX6_grants 134 = .ok (.iastore, 1) := by decide +kernel
theorem z160_134 {st : List Value} {w : pm_H} {pl : pm_L} {x0 : Nat} {x1 : Int32} {x2 : Int32} : pm_ev 160 134 pl (.int x2 :: .int x1 :: .ref x0 :: st) w = pm_kw 160 135 pl st (pm_is w x0 (w x0) x1 x2) := pm_nis pt_160 d160_134
theorem d160_135 : decode cX6_grants 135 = .ok (.aload_n 0, 1) := by decide +kernel
theorem z160_135 {st : List Value} {w : pm_H} {b1 b2 b3 b4 b5 : Option Value} {x0 : Nat} : pm_ev 160 135 [some (.ref x0), b1, b2, b3, b4, b5] st w = pm_ev 160 136 [some (.ref x0), b1, b2, b3, b4, b5] (.ref x0 :: st) w := pm_ny pt_160 d160_135 rfl rfl rfl
theorem d160_136 : decode cX6_grants 136 = .ok (.getfield 84, 3) := by decide +kernel
theorem z160_136 {st : List Value} {w : pm_H} {pl : pm_L} {x0 : Nat} : pm_ev 160 136 pl (.ref x0 :: st) w = pm_kv 160 139 pl st w (pm_gf (w x0) 6 11) := pm_ng pt_160 pt_F_6_84 d160_136
theorem d160_139 : decode cX6_grants 139 = .ok (.bipush 70, 2) := by decide +kernel
theorem z160_139 {st : List Value} {w : pm_H} {pl : pm_L} : pm_ev 160 139 pl st w = pm_ev 160 141 pl (.int 70 :: st) w := pm_ny pt_160 d160_139 rfl rfl rfl
theorem d160_141 : decode cX6_grants 141 = .ok (.dup2, 1) := by decide +kernel
theorem z160_141 {st : List Value} {w : pm_H} {pl : pm_L} {x0 : Int32} {x1 : Nat} : pm_ev 160 141 pl (.int x0 :: .ref x1 :: st) w = pm_ev 160 142 pl (.int x0 :: .ref x1 :: .int x0 :: .ref x1 :: st) w := pm_ny pt_160 d160_141 rfl rfl rfl
theorem d160_142 : decode cX6_grants 142 = .ok (.iaload, 1) := by decide +kernel
theorem z160_142 {st : List Value} {w : pm_H} {pl : pm_L} {x0 : Nat} {x1 : Int32} : pm_ev 160 142 pl (.int x1 :: .ref x0 :: st) w = pm_kv 160 143 pl st w (pm_ia (w x0) 0 x1) := pm_nia pt_160 d160_142
theorem d160_143 : decode cX6_grants 143 = .ok (.iconst 1, 1) := by decide +kernel
theorem z160_143 {st : List Value} {w : pm_H} {pl : pm_L} : pm_ev 160 143 pl st w = pm_ev 160 144 pl (.int 1 :: st) w := pm_ny pt_160 d160_143 rfl rfl rfl
theorem d160_144 : decode cX6_grants 144 = .ok (.iadd, 1) := by decide +kernel
theorem z160_144 {st : List Value} {w : pm_H} {pl : pm_L} {x0 x1 : Int32} : pm_ev 160 144 pl (.int x1 :: .int x0 :: st) w = pm_ev 160 145 pl (.int (x0 + x1) :: st) w := pm_ny pt_160 d160_144 rfl rfl rfl
theorem d160_145 : decode cX6_grants 145 = .ok (.iastore, 1) := by decide +kernel
theorem z160_145 {st : List Value} {w : pm_H} {pl : pm_L} {x0 : Nat} {x1 : Int32} {x2 : Int32} : pm_ev 160 145 pl (.int x2 :: .int x1 :: .ref x0 :: st) w = pm_kw 160 146 pl st (pm_is w x0 (w x0) x1 x2) := pm_nis pt_160 d160_145
theorem d160_146 : decode cX6_grants 146 = .ok (.aload_n 0, 1) := by decide +kernel
theorem z160_146 {st : List Value} {w : pm_H} {b1 b2 b3 b4 b5 : Option Value} {x0 : Nat} : pm_ev 160 146 [some (.ref x0), b1, b2, b3, b4, b5] st w = pm_ev 160 147 [some (.ref x0), b1, b2, b3, b4, b5] (.ref x0 :: st) w := pm_ny pt_160 d160_146 rfl rfl rfl
theorem d160_147 : decode cX6_grants 147 = .ok (.getfield 84, 3) := by decide +kernel
theorem z160_147 {st : List Value} {w : pm_H} {pl : pm_L} {x0 : Nat} : pm_ev 160 147 pl (.ref x0 :: st) w = pm_kv 160 150 pl st w (pm_gf (w x0) 6 11) := pm_ng pt_160 pt_F_6_84 d160_147
theorem d160_150 : decode cX6_grants 150 = .ok (.bipush 70, 2) := by decide +kernel
theorem z160_150 {st : List Value} {w : pm_H} {pl : pm_L} : pm_ev 160 150 pl st w = pm_ev 160 152 pl (.int 70 :: st) w := pm_ny pt_160 d160_150 rfl rfl rfl
theorem d160_152 : decode cX6_grants 152 = .ok (.iaload, 1) := by decide +kernel
theorem z160_152 {st : List Value} {w : pm_H} {pl : pm_L} {x0 : Nat} {x1 : Int32} : pm_ev 160 152 pl (.int x1 :: .ref x0 :: st) w = pm_kv 160 153 pl st w (pm_ia (w x0) 0 x1) := pm_nia pt_160 d160_152
theorem d160_153 : decode cX6_grants 153 = .ok (.iconst 1, 1) := by decide +kernel
theorem z160_153 {st : List Value} {w : pm_H} {pl : pm_L} : pm_ev 160 153 pl st w = pm_ev 160 154 pl (.int 1 :: st) w := pm_ny pt_160 d160_153 rfl rfl rfl
theorem d160_154 : decode cX6_grants 154 = .ok (.isub, 1) := by decide +kernel
theorem z160_154 {st : List Value} {w : pm_H} {pl : pm_L} {x0 x1 : Int32} : pm_ev 160 154 pl (.int x1 :: .int x0 :: st) w = pm_ev 160 155 pl (.int (x0 - x1) :: st) w := pm_ny pt_160 d160_154 rfl rfl rfl
theorem d160_155 : decode cX6_grants 155 = .ok (.ireturn, 1) := by decide +kernel
theorem z160_155 {w : pm_H} {pl : pm_L} {x0 : Int32} : pm_ev 160 155 pl [.int x0] w = some (some (.int x0), w) := pm_nr pt_160 d160_155 rfl
theorem d161_0 : decode cX6_earns 0 = .ok (.aload_n 0, 1) := by decide +kernel
theorem z161_0 {st : List Value} {w : pm_H} {b1 b2 : Option Value} {x0 : Nat} : pm_ev 161 0 [some (.ref x0), b1, b2] st w = pm_ev 161 1 [some (.ref x0), b1, b2] (.ref x0 :: st) w := pm_ny pt_161 d161_0 rfl rfl rfl
theorem d161_1 : decode cX6_earns 1 = .ok (.iconst 0, 1) := by decide +kernel
theorem z161_1 {st : List Value} {w : pm_H} {pl : pm_L} : pm_ev 161 1 pl st w = pm_ev 161 2 pl (.int 0 :: st) w := pm_ny pt_161 d161_1 rfl rfl rfl
theorem d161_2 : decode cX6_earns 2 = .ok (.putfield 1, 3) := by decide +kernel
theorem z161_2 {st : List Value} {w : pm_H} {pl : pm_L} {x0 : Nat} {x1 : Int32} : pm_ev 161 2 pl (.int x1 :: .ref x0 :: st) w = pm_kw 161 5 pl st (pm_pf w x0 (w x0) 6 0 0 (.int x1)) := pm_np pt_161 pt_F_6_1 d161_2
theorem d161_5 : decode cX6_earns 5 = .ok (.iload_n 1, 1) := by decide +kernel
theorem z161_5 {st : List Value} {w : pm_H} {b0 b2 : Option Value} {x0 : Int32} : pm_ev 161 5 [b0, some (.int x0), b2] st w = pm_ev 161 6 [b0, some (.int x0), b2] (.int x0 :: st) w := pm_ny pt_161 d161_5 rfl rfl rfl
theorem d161_6 : decode cX6_earns 6 = .ok (.invokestatic 188, 3) := by decide +kernel
theorem z161_6 {w : pm_H} {b0 b1 b2 : Option Value} {x0 : Int32} : pm_ev 161 6 [b0, b1, b2] [.int x0] w = pm_k 161 9 [b0, b1, b2] [] (pm_call 125 [.int x0] w) := pm_ns pt_161 pt_125 pt_M_6_188 (Or.inl rfl) d161_6 ⟨rfl, rfl⟩ ⟨⟨rfl, Nat.le_of_ble_eq_true rfl, Nat.le_of_ble_eq_true rfl, Nat.le_of_ble_eq_true rfl, Nat.le_of_ble_eq_true rfl⟩, rfl⟩
theorem d161_9 : decode cX6_earns 9 = .ok (.ifCond .eq 28, 3) := by decide +kernel
theorem z161_9 {st : List Value} {w : pm_H} {pl : pm_L} {x0 : Int32} : pm_ev 161 9 pl (.int x0 :: st) w = if x0 = 0 then pm_ev 161 37 pl st w else pm_ev 161 12 pl st w := pm_nif pt_161 d161_9 rfl rfl rfl
theorem d161_12 : decode cX6_earns 12 = .ok (.iload_n 2, 1) := by decide +kernel
theorem z161_12 {st : List Value} {w : pm_H} {b0 b1 : Option Value} {x0 : Int32} : pm_ev 161 12 [b0, b1, some (.int x0)] st w = pm_ev 161 13 [b0, b1, some (.int x0)] (.int x0 :: st) w := pm_ny pt_161 d161_12 rfl rfl rfl
theorem d161_13 : decode cX6_earns 13 = .ok (.ldc_w 283, 3) := by decide +kernel
theorem z161_13 {st : List Value} {w : pm_H} {pl : pm_L} : pm_ev 161 13 pl st w = pm_ev 161 16 pl (.int (-99999) :: st) w := pm_nkw pt_161 pt_K_6_283 rfl d161_13
theorem d161_16 : decode cX6_earns 16 = .ok (.ldc 117, 2) := by decide +kernel
theorem z161_16 {st : List Value} {w : pm_H} {pl : pm_L} : pm_ev 161 16 pl st w = pm_ev 161 18 pl (.int (99999) :: st) w := pm_nk pt_161 pt_K_6_117 (by decide) d161_16
theorem d161_18 : decode cX6_earns 18 = .ok (.invokestatic 110, 3) := by decide +kernel
theorem z161_18 {w : pm_H} {b0 b1 b2 : Option Value} {x0 : Int32} {x1 : Int32} {x2 : Int32} : pm_ev 161 18 [b0, b1, b2] [.int x0, .int x1, .int x2] w = pm_k 161 21 [b0, b1, b2] [] (pm_call 96 [.int x2, .int x1, .int x0] w) := pm_ns pt_161 pt_96 pt_M_6_110 (Or.inl rfl) d161_18 ⟨rfl, rfl⟩ ⟨⟨rfl, Nat.le_of_ble_eq_true rfl, Nat.le_of_ble_eq_true rfl, Nat.le_of_ble_eq_true rfl, Nat.le_of_ble_eq_true rfl⟩, rfl⟩
theorem d161_21 : decode cX6_earns 21 = .ok (.ifCond .eq 16, 3) := by decide +kernel
theorem z161_21 {st : List Value} {w : pm_H} {pl : pm_L} {x0 : Int32} : pm_ev 161 21 pl (.int x0 :: st) w = if x0 = 0 then pm_ev 161 37 pl st w else pm_ev 161 24 pl st w := pm_nif pt_161 d161_21 rfl rfl rfl
theorem d161_24 : decode cX6_earns 24 = .ok (.aload_n 0, 1) := by decide +kernel
theorem z161_24 {st : List Value} {w : pm_H} {b1 b2 : Option Value} {x0 : Nat} : pm_ev 161 24 [some (.ref x0), b1, b2] st w = pm_ev 161 25 [some (.ref x0), b1, b2] (.ref x0 :: st) w := pm_ny pt_161 d161_24 rfl rfl rfl
theorem d161_25 : decode cX6_earns 25 = .ok (.iconst 1, 1) := by decide +kernel
theorem z161_25 {st : List Value} {w : pm_H} {pl : pm_L} : pm_ev 161 25 pl st w = pm_ev 161 26 pl (.int 1 :: st) w := pm_ny pt_161 d161_25 rfl rfl rfl
theorem d161_26 : decode cX6_earns 26 = .ok (.iconst 2, 1) := by decide +kernel
theorem z161_26 {st : List Value} {w : pm_H} {pl : pm_L} : pm_ev 161 26 pl st w = pm_ev 161 27 pl (.int 2 :: st) w := pm_ny pt_161 d161_26 rfl rfl rfl
theorem d161_27 : decode cX6_earns 27 = .ok (.iload_n 1, 1) := by decide +kernel
theorem z161_27 {st : List Value} {w : pm_H} {b0 b2 : Option Value} {x0 : Int32} : pm_ev 161 27 [b0, some (.int x0), b2] st w = pm_ev 161 28 [b0, some (.int x0), b2] (.int x0 :: st) w := pm_ny pt_161 d161_27 rfl rfl rfl
theorem d161_28 : decode cX6_earns 28 = .ok (.imul, 1) := by decide +kernel
theorem z161_28 {st : List Value} {w : pm_H} {pl : pm_L} {x0 x1 : Int32} : pm_ev 161 28 pl (.int x1 :: .int x0 :: st) w = pm_ev 161 29 pl (.int (x0 * x1) :: st) w := pm_ny pt_161 d161_28 rfl rfl rfl
theorem d161_29 : decode cX6_earns 29 = .ok (.iadd, 1) := by decide +kernel
theorem z161_29 {st : List Value} {w : pm_H} {pl : pm_L} {x0 x1 : Int32} : pm_ev 161 29 pl (.int x1 :: .int x0 :: st) w = pm_ev 161 30 pl (.int (x0 + x1) :: st) w := pm_ny pt_161 d161_29 rfl rfl rfl
theorem d161_30 : decode cX6_earns 30 = .ok (.iload_n 2, 1) := by decide +kernel
theorem z161_30 {st : List Value} {w : pm_H} {b0 b1 : Option Value} {x0 : Int32} : pm_ev 161 30 [b0, b1, some (.int x0)] st w = pm_ev 161 31 [b0, b1, some (.int x0)] (.int x0 :: st) w := pm_ny pt_161 d161_30 rfl rfl rfl
theorem d161_31 : decode cX6_earns 31 = .ok (.invokevirtual 284, 3) := by decide +kernel
theorem z161_31 {w : pm_H} {b0 b1 b2 : Option Value} {x0 : Int32} {x1 : Int32} {x2 : Nat} : pm_ev 161 31 [b0, b1, b2] [.int x0, .int x1, .ref x2] w = pm_k 161 34 [b0, b1, b2] [] (pm_vc (w x2) 6 (pm_call 162 [.ref x2, .int x1, .int x0] w)) := pm_nv pt_161 pt_162 pt_M_6_284 d161_31 ⟨rfl, rfl⟩ ⟨⟨rfl, Nat.le_of_ble_eq_true rfl, Nat.le_of_ble_eq_true rfl, Nat.le_of_ble_eq_true rfl, Nat.le_of_ble_eq_true rfl⟩, rfl⟩
theorem d161_34 : decode cX6_earns 34 = .ok (.goto 6, 3) := by decide +kernel
theorem z161_34 {st : List Value} {w : pm_H} {pl : pm_L} : pm_ev 161 34 pl st w = pm_ev 161 40 pl st w := pm_ny pt_161 d161_34 rfl rfl rfl
theorem d161_37 : decode cX6_earns 37 = .ok (.ldc_w 266, 3) := by decide +kernel
theorem z161_37 {st : List Value} {w : pm_H} {pl : pm_L} : pm_ev 161 37 pl st w = pm_ev 161 40 pl (.int (-1000000000) :: st) w := pm_nkw pt_161 pt_K_6_266 rfl d161_37
theorem d161_40 : decode cX6_earns 40 = .ok (.ireturn, 1) := by decide +kernel
theorem z161_40 {w : pm_H} {pl : pm_L} {x0 : Int32} : pm_ev 161 40 pl [.int x0] w = some (some (.int x0), w) := pm_nr pt_161 d161_40 rfl
theorem d162_0 : decode cX6_becomes 0 = .ok (.aload_n 0, 1) := by decide +kernel
theorem z162_0 {st : List Value} {w : pm_H} {b1 b2 b3 : Option Value} {x0 : Nat} : pm_ev 162 0 [some (.ref x0), b1, b2, b3] st w = pm_ev 162 1 [some (.ref x0), b1, b2, b3] (.ref x0 :: st) w := pm_ny pt_162 d162_0 rfl rfl rfl
theorem d162_1 : decode cX6_becomes 1 = .ok (.invokevirtual 280, 3) := by decide +kernel
theorem z162_1 {w : pm_H} {b0 b1 b2 b3 : Option Value} {x0 : Nat} : pm_ev 162 1 [b0, b1, b2, b3] [.ref x0] w = pm_k 162 4 [b0, b1, b2, b3] [] (pm_vc (w x0) 6 (pm_call 159 [.ref x0] w)) := pm_nv pt_162 pt_159 pt_M_6_280 d162_1 ⟨rfl, rfl⟩ ⟨⟨rfl, Nat.le_of_ble_eq_true rfl, Nat.le_of_ble_eq_true rfl, Nat.le_of_ble_eq_true rfl, Nat.le_of_ble_eq_true rfl⟩, rfl⟩
theorem d162_4 : decode cX6_becomes 4 = .ok (.aload_n 0, 1) := by decide +kernel
theorem z162_4 {st : List Value} {w : pm_H} {b1 b2 b3 : Option Value} {x0 : Nat} : pm_ev 162 4 [some (.ref x0), b1, b2, b3] st w = pm_ev 162 5 [some (.ref x0), b1, b2, b3] (.ref x0 :: st) w := pm_ny pt_162 d162_4 rfl rfl rfl
theorem d162_5 : decode cX6_becomes 5 = .ok (.getfield 84, 3) := by decide +kernel
theorem z162_5 {st : List Value} {w : pm_H} {pl : pm_L} {x0 : Nat} : pm_ev 162 5 pl (.ref x0 :: st) w = pm_kv 162 8 pl st w (pm_gf (w x0) 6 11) := pm_ng pt_162 pt_F_6_84 d162_5
theorem d162_8 : decode cX6_becomes 8 = .ok (.iload_n 1, 1) := by decide +kernel
theorem z162_8 {st : List Value} {w : pm_H} {b0 b2 b3 : Option Value} {x0 : Int32} : pm_ev 162 8 [b0, some (.int x0), b2, b3] st w = pm_ev 162 9 [b0, some (.int x0), b2, b3] (.int x0 :: st) w := pm_ny pt_162 d162_8 rfl rfl rfl
theorem d162_9 : decode cX6_becomes 9 = .ok (.iaload, 1) := by decide +kernel
theorem z162_9 {st : List Value} {w : pm_H} {pl : pm_L} {x0 : Nat} {x1 : Int32} : pm_ev 162 9 pl (.int x1 :: .ref x0 :: st) w = pm_kv 162 10 pl st w (pm_ia (w x0) 0 x1) := pm_nia pt_162 d162_9
theorem d162_10 : decode cX6_becomes 10 = .ok (.istore_n 3, 1) := by decide +kernel
theorem z162_10 {st : List Value} {w : pm_H} {b0 b1 b3 : Option Value} {x0 : Int32} {x9 : Int32} : pm_ev 162 10 [b0, b1, some (.int x9), b3] (.int x0 :: st) w = pm_ev 162 11 [b0, b1, some (.int x9), some (.int x0)] st w := pm_ny pt_162 d162_10 rfl rfl rfl
theorem d162_11 : decode cX6_becomes 11 = .ok (.aload_n 0, 1) := by decide +kernel
theorem z162_11 {st : List Value} {w : pm_H} {b1 b2 b3 : Option Value} {x0 : Nat} : pm_ev 162 11 [some (.ref x0), b1, b2, b3] st w = pm_ev 162 12 [some (.ref x0), b1, b2, b3] (.ref x0 :: st) w := pm_ny pt_162 d162_11 rfl rfl rfl
theorem d162_12 : decode cX6_becomes 12 = .ok (.getfield 84, 3) := by decide +kernel
theorem z162_12 {st : List Value} {w : pm_H} {pl : pm_L} {x0 : Nat} : pm_ev 162 12 pl (.ref x0 :: st) w = pm_kv 162 15 pl st w (pm_gf (w x0) 6 11) := pm_ng pt_162 pt_F_6_84 d162_12
theorem d162_15 : decode cX6_becomes 15 = .ok (.iload_n 1, 1) := by decide +kernel
theorem z162_15 {st : List Value} {w : pm_H} {b0 b2 b3 : Option Value} {x0 : Int32} : pm_ev 162 15 [b0, some (.int x0), b2, b3] st w = pm_ev 162 16 [b0, some (.int x0), b2, b3] (.int x0 :: st) w := pm_ny pt_162 d162_15 rfl rfl rfl
theorem d162_16 : decode cX6_becomes 16 = .ok (.iload_n 2, 1) := by decide +kernel
theorem z162_16 {st : List Value} {w : pm_H} {b0 b1 b3 : Option Value} {x0 : Int32} : pm_ev 162 16 [b0, b1, some (.int x0), b3] st w = pm_ev 162 17 [b0, b1, some (.int x0), b3] (.int x0 :: st) w := pm_ny pt_162 d162_16 rfl rfl rfl
theorem d162_17 : decode cX6_becomes 17 = .ok (.iastore, 1) := by decide +kernel
theorem z162_17 {st : List Value} {w : pm_H} {pl : pm_L} {x0 : Nat} {x1 : Int32} {x2 : Int32} : pm_ev 162 17 pl (.int x2 :: .int x1 :: .ref x0 :: st) w = pm_kw 162 18 pl st (pm_is w x0 (w x0) x1 x2) := pm_nis pt_162 d162_17
theorem d162_18 : decode cX6_becomes 18 = .ok (.iload_n 3, 1) := by decide +kernel
theorem z162_18 {st : List Value} {w : pm_H} {b0 b1 b2 : Option Value} {x0 : Int32} : pm_ev 162 18 [b0, b1, b2, some (.int x0)] st w = pm_ev 162 19 [b0, b1, b2, some (.int x0)] (.int x0 :: st) w := pm_ny pt_162 d162_18 rfl rfl rfl
theorem d162_19 : decode cX6_becomes 19 = .ok (.ireturn, 1) := by decide +kernel
theorem z162_19 {w : pm_H} {pl : pm_L} {x0 : Int32} : pm_ev 162 19 pl [.int x0] w = some (some (.int x0), w) := pm_nr pt_162 d162_19 rfl
theorem d163_0 : decode cX6_prices 0 = .ok (.aload_n 0, 1) := by decide +kernel
theorem z163_0 {st : List Value} {w : pm_H} {b1 b2 : Option Value} {x0 : Nat} : pm_ev 163 0 [some (.ref x0), b1, b2] st w = pm_ev 163 1 [some (.ref x0), b1, b2] (.ref x0 :: st) w := pm_ny pt_163 d163_0 rfl rfl rfl
theorem d163_1 : decode cX6_prices 1 = .ok (.iconst 0, 1) := by decide +kernel
theorem z163_1 {st : List Value} {w : pm_H} {pl : pm_L} : pm_ev 163 1 pl st w = pm_ev 163 2 pl (.int 0 :: st) w := pm_ny pt_163 d163_1 rfl rfl rfl
theorem d163_2 : decode cX6_prices 2 = .ok (.putfield 1, 3) := by decide +kernel
theorem z163_2 {st : List Value} {w : pm_H} {pl : pm_L} {x0 : Nat} {x1 : Int32} : pm_ev 163 2 pl (.int x1 :: .ref x0 :: st) w = pm_kw 163 5 pl st (pm_pf w x0 (w x0) 6 0 0 (.int x1)) := pm_np pt_163 pt_F_6_1 d163_2
theorem d163_5 : decode cX6_prices 5 = .ok (.iload_n 1, 1) := by decide +kernel
theorem z163_5 {st : List Value} {w : pm_H} {b0 b2 : Option Value} {x0 : Int32} : pm_ev 163 5 [b0, some (.int x0), b2] st w = pm_ev 163 6 [b0, some (.int x0), b2] (.int x0 :: st) w := pm_ny pt_163 d163_5 rfl rfl rfl
theorem d163_6 : decode cX6_prices 6 = .ok (.invokestatic 188, 3) := by decide +kernel
theorem z163_6 {w : pm_H} {b0 b1 b2 : Option Value} {x0 : Int32} : pm_ev 163 6 [b0, b1, b2] [.int x0] w = pm_k 163 9 [b0, b1, b2] [] (pm_call 125 [.int x0] w) := pm_ns pt_163 pt_125 pt_M_6_188 (Or.inl rfl) d163_6 ⟨rfl, rfl⟩ ⟨⟨rfl, Nat.le_of_ble_eq_true rfl, Nat.le_of_ble_eq_true rfl, Nat.le_of_ble_eq_true rfl, Nat.le_of_ble_eq_true rfl⟩, rfl⟩
theorem d163_9 : decode cX6_prices 9 = .ok (.ifCond .eq 29, 3) := by decide +kernel
theorem z163_9 {st : List Value} {w : pm_H} {pl : pm_L} {x0 : Int32} : pm_ev 163 9 pl (.int x0 :: st) w = if x0 = 0 then pm_ev 163 38 pl st w else pm_ev 163 12 pl st w := pm_nif pt_163 d163_9 rfl rfl rfl
theorem d163_12 : decode cX6_prices 12 = .ok (.iload_n 2, 1) := by decide +kernel
theorem z163_12 {st : List Value} {w : pm_H} {b0 b1 : Option Value} {x0 : Int32} : pm_ev 163 12 [b0, b1, some (.int x0)] st w = pm_ev 163 13 [b0, b1, some (.int x0)] (.int x0 :: st) w := pm_ny pt_163 d163_12 rfl rfl rfl
theorem d163_13 : decode cX6_prices 13 = .ok (.iconst 1, 1) := by decide +kernel
theorem z163_13 {st : List Value} {w : pm_H} {pl : pm_L} : pm_ev 163 13 pl st w = pm_ev 163 14 pl (.int 1 :: st) w := pm_ny pt_163 d163_13 rfl rfl rfl
theorem d163_14 : decode cX6_prices 14 = .ok (.sipush 9999, 3) := by decide +kernel
theorem z163_14 {st : List Value} {w : pm_H} {pl : pm_L} : pm_ev 163 14 pl st w = pm_ev 163 17 pl (.int 9999 :: st) w := pm_ny pt_163 d163_14 rfl rfl rfl
theorem d163_17 : decode cX6_prices 17 = .ok (.invokestatic 110, 3) := by decide +kernel
theorem z163_17 {w : pm_H} {b0 b1 b2 : Option Value} {x0 : Int32} {x1 : Int32} {x2 : Int32} : pm_ev 163 17 [b0, b1, b2] [.int x0, .int x1, .int x2] w = pm_k 163 20 [b0, b1, b2] [] (pm_call 96 [.int x2, .int x1, .int x0] w) := pm_ns pt_163 pt_96 pt_M_6_110 (Or.inl rfl) d163_17 ⟨rfl, rfl⟩ ⟨⟨rfl, Nat.le_of_ble_eq_true rfl, Nat.le_of_ble_eq_true rfl, Nat.le_of_ble_eq_true rfl, Nat.le_of_ble_eq_true rfl⟩, rfl⟩
theorem d163_20 : decode cX6_prices 20 = .ok (.ifCond .eq 18, 3) := by decide +kernel
theorem z163_20 {st : List Value} {w : pm_H} {pl : pm_L} {x0 : Int32} : pm_ev 163 20 pl (.int x0 :: st) w = if x0 = 0 then pm_ev 163 38 pl st w else pm_ev 163 23 pl st w := pm_nif pt_163 d163_20 rfl rfl rfl
theorem d163_23 : decode cX6_prices 23 = .ok (.aload_n 0, 1) := by decide +kernel
theorem z163_23 {st : List Value} {w : pm_H} {b1 b2 : Option Value} {x0 : Nat} : pm_ev 163 23 [some (.ref x0), b1, b2] st w = pm_ev 163 24 [some (.ref x0), b1, b2] (.ref x0 :: st) w := pm_ny pt_163 d163_23 rfl rfl rfl
theorem d163_24 : decode cX6_prices 24 = .ok (.iconst 1, 1) := by decide +kernel
theorem z163_24 {st : List Value} {w : pm_H} {pl : pm_L} : pm_ev 163 24 pl st w = pm_ev 163 25 pl (.int 1 :: st) w := pm_ny pt_163 d163_24 rfl rfl rfl
theorem d163_25 : decode cX6_prices 25 = .ok (.iconst 2, 1) := by decide +kernel
theorem z163_25 {st : List Value} {w : pm_H} {pl : pm_L} : pm_ev 163 25 pl st w = pm_ev 163 26 pl (.int 2 :: st) w := pm_ny pt_163 d163_25 rfl rfl rfl
theorem d163_26 : decode cX6_prices 26 = .ok (.iload_n 1, 1) := by decide +kernel
theorem z163_26 {st : List Value} {w : pm_H} {b0 b2 : Option Value} {x0 : Int32} : pm_ev 163 26 [b0, some (.int x0), b2] st w = pm_ev 163 27 [b0, some (.int x0), b2] (.int x0 :: st) w := pm_ny pt_163 d163_26 rfl rfl rfl
theorem d163_27 : decode cX6_prices 27 = .ok (.imul, 1) := by decide +kernel
theorem z163_27 {st : List Value} {w : pm_H} {pl : pm_L} {x0 x1 : Int32} : pm_ev 163 27 pl (.int x1 :: .int x0 :: st) w = pm_ev 163 28 pl (.int (x0 * x1) :: st) w := pm_ny pt_163 d163_27 rfl rfl rfl
theorem d163_28 : decode cX6_prices 28 = .ok (.iadd, 1) := by decide +kernel
theorem z163_28 {st : List Value} {w : pm_H} {pl : pm_L} {x0 x1 : Int32} : pm_ev 163 28 pl (.int x1 :: .int x0 :: st) w = pm_ev 163 29 pl (.int (x0 + x1) :: st) w := pm_ny pt_163 d163_28 rfl rfl rfl
theorem d163_29 : decode cX6_prices 29 = .ok (.iconst 1, 1) := by decide +kernel
theorem z163_29 {st : List Value} {w : pm_H} {pl : pm_L} : pm_ev 163 29 pl st w = pm_ev 163 30 pl (.int 1 :: st) w := pm_ny pt_163 d163_29 rfl rfl rfl
theorem d163_30 : decode cX6_prices 30 = .ok (.iadd, 1) := by decide +kernel
theorem z163_30 {st : List Value} {w : pm_H} {pl : pm_L} {x0 x1 : Int32} : pm_ev 163 30 pl (.int x1 :: .int x0 :: st) w = pm_ev 163 31 pl (.int (x0 + x1) :: st) w := pm_ny pt_163 d163_30 rfl rfl rfl
theorem d163_31 : decode cX6_prices 31 = .ok (.iload_n 2, 1) := by decide +kernel
theorem z163_31 {st : List Value} {w : pm_H} {b0 b1 : Option Value} {x0 : Int32} : pm_ev 163 31 [b0, b1, some (.int x0)] st w = pm_ev 163 32 [b0, b1, some (.int x0)] (.int x0 :: st) w := pm_ny pt_163 d163_31 rfl rfl rfl
theorem d163_32 : decode cX6_prices 32 = .ok (.invokevirtual 284, 3) := by decide +kernel
theorem z163_32 {w : pm_H} {b0 b1 b2 : Option Value} {x0 : Int32} {x1 : Int32} {x2 : Nat} : pm_ev 163 32 [b0, b1, b2] [.int x0, .int x1, .ref x2] w = pm_k 163 35 [b0, b1, b2] [] (pm_vc (w x2) 6 (pm_call 162 [.ref x2, .int x1, .int x0] w)) := pm_nv pt_163 pt_162 pt_M_6_284 d163_32 ⟨rfl, rfl⟩ ⟨⟨rfl, Nat.le_of_ble_eq_true rfl, Nat.le_of_ble_eq_true rfl, Nat.le_of_ble_eq_true rfl, Nat.le_of_ble_eq_true rfl⟩, rfl⟩
theorem d163_35 : decode cX6_prices 35 = .ok (.goto 4, 3) := by decide +kernel
theorem z163_35 {st : List Value} {w : pm_H} {pl : pm_L} : pm_ev 163 35 pl st w = pm_ev 163 39 pl st w := pm_ny pt_163 d163_35 rfl rfl rfl
theorem d163_38 : decode cX6_prices 38 = .ok (.iconst (-1), 1) := by decide +kernel
theorem z163_38 {st : List Value} {w : pm_H} {pl : pm_L} : pm_ev 163 38 pl st w = pm_ev 163 39 pl (.int (-1) :: st) w := pm_ny pt_163 d163_38 rfl rfl rfl
theorem d163_39 : decode cX6_prices 39 = .ok (.ireturn, 1) := by decide +kernel
theorem z163_39 {w : pm_H} {pl : pm_L} {x0 : Int32} : pm_ev 163 39 pl [.int x0] w = some (some (.int x0), w) := pm_nr pt_163 d163_39 rfl
theorem d164_0 : decode cX6_undo 0 = .ok (.aload_n 0, 1) := by decide +kernel
theorem z164_0 {st : List Value} {w : pm_H} {b1 : Option Value} {x0 : Nat} : pm_ev 164 0 [some (.ref x0), b1] st w = pm_ev 164 1 [some (.ref x0), b1] (.ref x0 :: st) w := pm_ny pt_164 d164_0 rfl rfl rfl
theorem d164_1 : decode cX6_undo 1 = .ok (.iconst 0, 1) := by decide +kernel
theorem z164_1 {st : List Value} {w : pm_H} {pl : pm_L} : pm_ev 164 1 pl st w = pm_ev 164 2 pl (.int 0 :: st) w := pm_ny pt_164 d164_1 rfl rfl rfl
theorem d164_2 : decode cX6_undo 2 = .ok (.putfield 1, 3) := by decide +kernel
theorem z164_2 {st : List Value} {w : pm_H} {pl : pm_L} {x0 : Nat} {x1 : Int32} : pm_ev 164 2 pl (.int x1 :: .ref x0 :: st) w = pm_kw 164 5 pl st (pm_pf w x0 (w x0) 6 0 0 (.int x1)) := pm_np pt_164 pt_F_6_1 d164_2
theorem d164_5 : decode cX6_undo 5 = .ok (.aload_n 0, 1) := by decide +kernel
theorem z164_5 {st : List Value} {w : pm_H} {b1 : Option Value} {x0 : Nat} : pm_ev 164 5 [some (.ref x0), b1] st w = pm_ev 164 6 [some (.ref x0), b1] (.ref x0 :: st) w := pm_ny pt_164 d164_5 rfl rfl rfl
theorem d164_6 : decode cX6_undo 6 = .ok (.getfield 172, 3) := by decide +kernel
theorem z164_6 {st : List Value} {w : pm_H} {pl : pm_L} {x0 : Nat} : pm_ev 164 6 pl (.ref x0 :: st) w = pm_kv 164 9 pl st w (pm_gf (w x0) 6 14) := pm_ng pt_164 pt_F_6_172 d164_6
theorem d164_9 : decode cX6_undo 9 = .ok (.ifCond .ne 5, 3) := by decide +kernel
theorem z164_9 {st : List Value} {w : pm_H} {pl : pm_L} {x0 : Int32} : pm_ev 164 9 pl (.int x0 :: st) w = if x0 = 0 then pm_ev 164 12 pl st w else pm_ev 164 14 pl st w := pm_nin (c := ¬ x0 = 0) pt_164 d164_9 rfl rfl rfl Iff.rfl
theorem d164_12 : decode cX6_undo 12 = .ok (.iconst (-1), 1) := by decide +kernel
theorem z164_12 {st : List Value} {w : pm_H} {pl : pm_L} : pm_ev 164 12 pl st w = pm_ev 164 13 pl (.int (-1) :: st) w := pm_ny pt_164 d164_12 rfl rfl rfl
theorem d164_13 : decode cX6_undo 13 = .ok (.ireturn, 1) := by decide +kernel
theorem z164_13 {w : pm_H} {pl : pm_L} {x0 : Int32} : pm_ev 164 13 pl [.int x0] w = some (some (.int x0), w) := pm_nr pt_164 d164_13 rfl
theorem d164_14 : decode cX6_undo 14 = .ok (.aload_n 0, 1) := by decide +kernel
theorem z164_14 {st : List Value} {w : pm_H} {b1 : Option Value} {x0 : Nat} : pm_ev 164 14 [some (.ref x0), b1] st w = pm_ev 164 15 [some (.ref x0), b1] (.ref x0 :: st) w := pm_ny pt_164 d164_14 rfl rfl rfl
theorem d164_15 : decode cX6_undo 15 = .ok (.dup, 1) := by decide +kernel
theorem z164_15 {st : List Value} {w : pm_H} {pl : pm_L} {x0 : Nat} : pm_ev 164 15 pl (.ref x0 :: st) w = pm_ev 164 16 pl (.ref x0 :: .ref x0 :: st) w := pm_ny pt_164 d164_15 rfl rfl rfl
theorem d164_16 : decode cX6_undo 16 = .ok (.getfield 172, 3) := by decide +kernel
theorem z164_16 {st : List Value} {w : pm_H} {pl : pm_L} {x0 : Nat} : pm_ev 164 16 pl (.ref x0 :: st) w = pm_kv 164 19 pl st w (pm_gf (w x0) 6 14) := pm_ng pt_164 pt_F_6_172 d164_16
theorem d164_19 : decode cX6_undo 19 = .ok (.iconst 1, 1) := by decide +kernel
theorem z164_19 {st : List Value} {w : pm_H} {pl : pm_L} : pm_ev 164 19 pl st w = pm_ev 164 20 pl (.int 1 :: st) w := pm_ny pt_164 d164_19 rfl rfl rfl
theorem d164_20 : decode cX6_undo 20 = .ok (.isub, 1) := by decide +kernel
theorem z164_20 {st : List Value} {w : pm_H} {pl : pm_L} {x0 x1 : Int32} : pm_ev 164 20 pl (.int x1 :: .int x0 :: st) w = pm_ev 164 21 pl (.int (x0 - x1) :: st) w := pm_ny pt_164 d164_20 rfl rfl rfl
theorem d164_21 : decode cX6_undo 21 = .ok (.putfield 172, 3) := by decide +kernel
theorem z164_21 {st : List Value} {w : pm_H} {pl : pm_L} {x0 : Nat} {x1 : Int32} : pm_ev 164 21 pl (.int x1 :: .ref x0 :: st) w = pm_kw 164 24 pl st (pm_pf w x0 (w x0) 6 14 0 (.int x1)) := pm_np pt_164 pt_F_6_172 d164_21
theorem d164_24 : decode cX6_undo 24 = .ok (.iconst 0, 1) := by decide +kernel
theorem z164_24 {st : List Value} {w : pm_H} {pl : pm_L} : pm_ev 164 24 pl st w = pm_ev 164 25 pl (.int 0 :: st) w := pm_ny pt_164 d164_24 rfl rfl rfl
theorem d164_25 : decode cX6_undo 25 = .ok (.istore_n 1, 1) := by decide +kernel
theorem z164_25 {st : List Value} {w : pm_H} {b1 : Option Value} {x0 : Int32} {x9 : Nat} : pm_ev 164 25 [some (.ref x9), b1] (.int x0 :: st) w = pm_ev 164 26 [some (.ref x9), some (.int x0)] st w := pm_ny pt_164 d164_25 rfl rfl rfl
theorem d164_26 : decode cX6_undo 26 = .ok (.iload_n 1, 1) := by decide +kernel
theorem z164_26 {st : List Value} {w : pm_H} {b0 : Option Value} {x0 : Int32} : pm_ev 164 26 [b0, some (.int x0)] st w = pm_ev 164 27 [b0, some (.int x0)] (.int x0 :: st) w := pm_ny pt_164 d164_26 rfl rfl rfl
theorem d164_27 : decode cX6_undo 27 = .ok (.bipush 103, 2) := by decide +kernel
theorem z164_27 {st : List Value} {w : pm_H} {pl : pm_L} : pm_ev 164 27 pl st w = pm_ev 164 29 pl (.int 103 :: st) w := pm_ny pt_164 d164_27 rfl rfl rfl
theorem d164_29 : decode cX6_undo 29 = .ok (.if_icmp .ge 29, 3) := by decide +kernel
theorem z164_29 {st : List Value} {w : pm_H} {pl : pm_L} {x0 x1 : Int32} : pm_ev 164 29 pl (.int x1 :: .int x0 :: st) w = if x0 < x1 then pm_ev 164 32 pl st w else pm_ev 164 58 pl st w := pm_nin (c := x1 ≤ x0) pt_164 d164_29 rfl rfl rfl pm_ge
theorem d164_32 : decode cX6_undo 32 = .ok (.aload_n 0, 1) := by decide +kernel
theorem z164_32 {st : List Value} {w : pm_H} {b1 : Option Value} {x0 : Nat} : pm_ev 164 32 [some (.ref x0), b1] st w = pm_ev 164 33 [some (.ref x0), b1] (.ref x0 :: st) w := pm_ny pt_164 d164_32 rfl rfl rfl
theorem d164_33 : decode cX6_undo 33 = .ok (.getfield 84, 3) := by decide +kernel
theorem z164_33 {st : List Value} {w : pm_H} {pl : pm_L} {x0 : Nat} : pm_ev 164 33 pl (.ref x0 :: st) w = pm_kv 164 36 pl st w (pm_gf (w x0) 6 11) := pm_ng pt_164 pt_F_6_84 d164_33
theorem d164_36 : decode cX6_undo 36 = .ok (.iload_n 1, 1) := by decide +kernel
theorem z164_36 {st : List Value} {w : pm_H} {b0 : Option Value} {x0 : Int32} : pm_ev 164 36 [b0, some (.int x0)] st w = pm_ev 164 37 [b0, some (.int x0)] (.int x0 :: st) w := pm_ny pt_164 d164_36 rfl rfl rfl
theorem d164_37 : decode cX6_undo 37 = .ok (.aload_n 0, 1) := by decide +kernel
theorem z164_37 {st : List Value} {w : pm_H} {b1 : Option Value} {x0 : Nat} : pm_ev 164 37 [some (.ref x0), b1] st w = pm_ev 164 38 [some (.ref x0), b1] (.ref x0 :: st) w := pm_ny pt_164 d164_37 rfl rfl rfl
theorem d164_38 : decode cX6_undo 38 = .ok (.getfield 90, 3) := by decide +kernel
theorem z164_38 {st : List Value} {w : pm_H} {pl : pm_L} {x0 : Nat} : pm_ev 164 38 pl (.ref x0 :: st) w = pm_kv 164 41 pl st w (pm_gf (w x0) 6 13) := pm_ng pt_164 pt_F_6_90 d164_38
theorem d164_41 : decode cX6_undo 41 = .ok (.bipush 103, 2) := by decide +kernel
theorem z164_41 {st : List Value} {w : pm_H} {pl : pm_L} : pm_ev 164 41 pl st w = pm_ev 164 43 pl (.int 103 :: st) w := pm_ny pt_164 d164_41 rfl rfl rfl
theorem d164_43 : decode cX6_undo 43 = .ok (.aload_n 0, 1) := by decide +kernel
theorem z164_43 {st : List Value} {w : pm_H} {b1 : Option Value} {x0 : Nat} : pm_ev 164 43 [some (.ref x0), b1] st w = pm_ev 164 44 [some (.ref x0), b1] (.ref x0 :: st) w := pm_ny pt_164 d164_43 rfl rfl rfl
theorem d164_44 : decode cX6_undo 44 = .ok (.getfield 172, 3) := by decide +kernel
theorem z164_44 {st : List Value} {w : pm_H} {pl : pm_L} {x0 : Nat} : pm_ev 164 44 pl (.ref x0 :: st) w = pm_kv 164 47 pl st w (pm_gf (w x0) 6 14) := pm_ng pt_164 pt_F_6_172 d164_44
theorem d164_47 : decode cX6_undo 47 = .ok (.imul, 1) := by decide +kernel
theorem z164_47 {st : List Value} {w : pm_H} {pl : pm_L} {x0 x1 : Int32} : pm_ev 164 47 pl (.int x1 :: .int x0 :: st) w = pm_ev 164 48 pl (.int (x0 * x1) :: st) w := pm_ny pt_164 d164_47 rfl rfl rfl
theorem d164_48 : decode cX6_undo 48 = .ok (.iload_n 1, 1) := by decide +kernel
theorem z164_48 {st : List Value} {w : pm_H} {b0 : Option Value} {x0 : Int32} : pm_ev 164 48 [b0, some (.int x0)] st w = pm_ev 164 49 [b0, some (.int x0)] (.int x0 :: st) w := pm_ny pt_164 d164_48 rfl rfl rfl
theorem d164_49 : decode cX6_undo 49 = .ok (.iadd, 1) := by decide +kernel
theorem z164_49 {st : List Value} {w : pm_H} {pl : pm_L} {x0 x1 : Int32} : pm_ev 164 49 pl (.int x1 :: .int x0 :: st) w = pm_ev 164 50 pl (.int (x0 + x1) :: st) w := pm_ny pt_164 d164_49 rfl rfl rfl
theorem d164_50 : decode cX6_undo 50 = .ok (.iaload, 1) := by decide +kernel
theorem z164_50 {st : List Value} {w : pm_H} {pl : pm_L} {x0 : Nat} {x1 : Int32} : pm_ev 164 50 pl (.int x1 :: .ref x0 :: st) w = pm_kv 164 51 pl st w (pm_ia (w x0) 0 x1) := pm_nia pt_164 d164_50
theorem d164_51 : decode cX6_undo 51 = .ok (.iastore, 1) := by decide +kernel
theorem z164_51 {st : List Value} {w : pm_H} {pl : pm_L} {x0 : Nat} {x1 : Int32} {x2 : Int32} : pm_ev 164 51 pl (.int x2 :: .int x1 :: .ref x0 :: st) w = pm_kw 164 52 pl st (pm_is w x0 (w x0) x1 x2) := pm_nis pt_164 d164_51
theorem d164_52 : decode cX6_undo 52 = .ok (.iinc 1 1, 3) := by decide +kernel
theorem z164_52 {st : List Value} {w : pm_H}  {x0 : Int32} {x9 : Nat} : pm_ev 164 52 [some (.ref x9), some (.int x0)] st w = pm_ev 164 55 [some (.ref x9), some (.int (x0 + 1))] st w := pm_ny pt_164 d164_52 rfl rfl rfl
theorem d164_55 : decode cX6_undo 55 = .ok (.goto (-29), 3) := by decide +kernel
theorem z164_55 {st : List Value} {w : pm_H} {pl : pm_L} : pm_ev 164 55 pl st w = pm_ev 164 26 pl st w := pm_ny pt_164 d164_55 rfl rfl rfl
theorem d164_58 : decode cX6_undo 58 = .ok (.aload_n 0, 1) := by decide +kernel
theorem z164_58 {st : List Value} {w : pm_H} {b1 : Option Value} {x0 : Nat} : pm_ev 164 58 [some (.ref x0), b1] st w = pm_ev 164 59 [some (.ref x0), b1] (.ref x0 :: st) w := pm_ny pt_164 d164_58 rfl rfl rfl
theorem d164_59 : decode cX6_undo 59 = .ok (.getfield 172, 3) := by decide +kernel
theorem z164_59 {st : List Value} {w : pm_H} {pl : pm_L} {x0 : Nat} : pm_ev 164 59 pl (.ref x0 :: st) w = pm_kv 164 62 pl st w (pm_gf (w x0) 6 14) := pm_ng pt_164 pt_F_6_172 d164_59
theorem d164_62 : decode cX6_undo 62 = .ok (.ireturn, 1) := by decide +kernel
theorem z164_62 {w : pm_H} {pl : pm_L} {x0 : Int32} : pm_ev 164 62 pl [.int x0] w = some (some (.int x0), w) := pm_nr pt_164 d164_62 rfl
