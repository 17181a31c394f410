theorem pg0_0 {a0 a1 a2 a3 a4 a5 a6 a7 a8 a9 a10 a11 : Value} : pm_gf (some (.inr (0, [a0, a1, a2, a3, a4, a5, a6, a7, a8, a9, a10, a11]))) 0 0 = some a0 := rfl
theorem pg0_1 {a0 a1 a2 a3 a4 a5 a6 a7 a8 a9 a10 a11 : Value} : pm_gf (some (.inr (0, [a0, a1, a2, a3, a4, a5, a6, a7, a8, a9, a10, a11]))) 0 1 = some a1 := rfl
theorem pp0_1 {w : pm_H} {a : Nat} {x : Int32} {a0 a1 a2 a3 a4 a5 a6 a7 a8 a9 a10 a11 : Value} : pm_pf w a (some (.inr (0, [a0, a1, a2, a3, a4, a5, a6, a7, a8, a9, a10, a11]))) 0 1 0 (.int x) = some (pm_up w a (.inr (0, [a0, .int x, a2, a3, a4, a5, a6, a7, a8, a9, a10, a11]))) := rfl
theorem pg0_2 {a0 a1 a2 a3 a4 a5 a6 a7 a8 a9 a10 a11 : Value} : pm_gf (some (.inr (0, [a0, a1, a2, a3, a4, a5, a6, a7, a8, a9, a10, a11]))) 0 2 = some a2 := rfl
theorem pp0_2 {w : pm_H} {a : Nat} {x : Int32} {a0 a1 a2 a3 a4 a5 a6 a7 a8 a9 a10 a11 : Value} : pm_pf w a (some (.inr (0, [a0, a1, a2, a3, a4, a5, a6, a7, a8, a9, a10, a11]))) 0 2 0 (.int x) = some (pm_up w a (.inr (0, [a0, a1, .int x, a3, a4, a5, a6, a7, a8, a9, a10, a11]))) := rfl
theorem pg0_3 {a0 a1 a2 a3 a4 a5 a6 a7 a8 a9 a10 a11 : Value} : pm_gf (some (.inr (0, [a0, a1, a2, a3, a4, a5, a6, a7, a8, a9, a10, a11]))) 0 3 = some a3 := rfl
theorem pp0_3 {w : pm_H} {a : Nat} {x : Int32} {a0 a1 a2 a3 a4 a5 a6 a7 a8 a9 a10 a11 : Value} : pm_pf w a (some (.inr (0, [a0, a1, a2, a3, a4, a5, a6, a7, a8, a9, a10, a11]))) 0 3 0 (.int x) = some (pm_up w a (.inr (0, [a0, a1, a2, .int x, a4, a5, a6, a7, a8, a9, a10, a11]))) := rfl
theorem pg0_4 {a0 a1 a2 a3 a4 a5 a6 a7 a8 a9 a10 a11 : Value} : pm_gf (some (.inr (0, [a0, a1, a2, a3, a4, a5, a6, a7, a8, a9, a10, a11]))) 0 4 = some a4 := rfl
theorem pg0_5 {a0 a1 a2 a3 a4 a5 a6 a7 a8 a9 a10 a11 : Value} : pm_gf (some (.inr (0, [a0, a1, a2, a3, a4, a5, a6, a7, a8, a9, a10, a11]))) 0 5 = some a5 := rfl
theorem pg0_6 {a0 a1 a2 a3 a4 a5 a6 a7 a8 a9 a10 a11 : Value} : pm_gf (some (.inr (0, [a0, a1, a2, a3, a4, a5, a6, a7, a8, a9, a10, a11]))) 0 6 = some a6 := rfl
theorem pg0_7 {a0 a1 a2 a3 a4 a5 a6 a7 a8 a9 a10 a11 : Value} : pm_gf (some (.inr (0, [a0, a1, a2, a3, a4, a5, a6, a7, a8, a9, a10, a11]))) 0 7 = some a7 := rfl
theorem pg0_8 {a0 a1 a2 a3 a4 a5 a6 a7 a8 a9 a10 a11 : Value} : pm_gf (some (.inr (0, [a0, a1, a2, a3, a4, a5, a6, a7, a8, a9, a10, a11]))) 0 8 = some a8 := rfl
theorem pp0_8 {w : pm_H} {a : Nat} {x : Int32} {a0 a1 a2 a3 a4 a5 a6 a7 a8 a9 a10 a11 : Value} : pm_pf w a (some (.inr (0, [a0, a1, a2, a3, a4, a5, a6, a7, a8, a9, a10, a11]))) 0 8 0 (.int x) = some (pm_up w a (.inr (0, [a0, a1, a2, a3, a4, a5, a6, a7, .int x, a9, a10, a11]))) := rfl
theorem pg0_9 {a0 a1 a2 a3 a4 a5 a6 a7 a8 a9 a10 a11 : Value} : pm_gf (some (.inr (0, [a0, a1, a2, a3, a4, a5, a6, a7, a8, a9, a10, a11]))) 0 9 = some a9 := rfl
theorem pp0_9 {w : pm_H} {a : Nat} {x : Int32} {a0 a1 a2 a3 a4 a5 a6 a7 a8 a9 a10 a11 : Value} : pm_pf w a (some (.inr (0, [a0, a1, a2, a3, a4, a5, a6, a7, a8, a9, a10, a11]))) 0 9 0 (.int x) = some (pm_up w a (.inr (0, [a0, a1, a2, a3, a4, a5, a6, a7, a8, .int x, a10, a11]))) := rfl
theorem pg0_10 {a0 a1 a2 a3 a4 a5 a6 a7 a8 a9 a10 a11 : Value} : pm_gf (some (.inr (0, [a0, a1, a2, a3, a4, a5, a6, a7, a8, a9, a10, a11]))) 0 10 = some a10 := rfl
theorem pp0_10 {w : pm_H} {a : Nat} {x : Int64} {a0 a1 a2 a3 a4 a5 a6 a7 a8 a9 a10 a11 : Value} : pm_pf w a (some (.inr (0, [a0, a1, a2, a3, a4, a5, a6, a7, a8, a9, a10, a11]))) 0 10 1 (.long x) = some (pm_up w a (.inr (0, [a0, a1, a2, a3, a4, a5, a6, a7, a8, a9, .long x, a11]))) := rfl
theorem pg0_11 {a0 a1 a2 a3 a4 a5 a6 a7 a8 a9 a10 a11 : Value} : pm_gf (some (.inr (0, [a0, a1, a2, a3, a4, a5, a6, a7, a8, a9, a10, a11]))) 0 11 = some a11 := rfl
theorem pp0_11 {w : pm_H} {a : Nat} {x : Int64} {a0 a1 a2 a3 a4 a5 a6 a7 a8 a9 a10 a11 : Value} : pm_pf w a (some (.inr (0, [a0, a1, a2, a3, a4, a5, a6, a7, a8, a9, a10, a11]))) 0 11 1 (.long x) = some (pm_up w a (.inr (0, [a0, a1, a2, a3, a4, a5, a6, a7, a8, a9, a10, .long x]))) := rfl
theorem pg1_0 {a0 a1 a2 a3 : Value} : pm_gf (some (.inr (1, [a0, a1, a2, a3]))) 1 0 = some a0 := rfl
theorem pp1_0 {w : pm_H} {a : Nat} {x : Int32} {a0 a1 a2 a3 : Value} : pm_pf w a (some (.inr (1, [a0, a1, a2, a3]))) 1 0 0 (.int x) = some (pm_up w a (.inr (1, [.int x, a1, a2, a3]))) := rfl
theorem pg1_1 {a0 a1 a2 a3 : Value} : pm_gf (some (.inr (1, [a0, a1, a2, a3]))) 1 1 = some a1 := rfl
theorem pg1_2 {a0 a1 a2 a3 : Value} : pm_gf (some (.inr (1, [a0, a1, a2, a3]))) 1 2 = some a2 := rfl
theorem pg1_3 {a0 a1 a2 a3 : Value} : pm_gf (some (.inr (1, [a0, a1, a2, a3]))) 1 3 = some a3 := rfl
theorem pg2_0 {a0 a1 a2 a3 a4 a5 a6 : Value} : pm_gf (some (.inr (2, [a0, a1, a2, a3, a4, a5, a6]))) 2 0 = some a0 := rfl
theorem pg2_1 {a0 a1 a2 a3 a4 a5 a6 : Value} : pm_gf (some (.inr (2, [a0, a1, a2, a3, a4, a5, a6]))) 2 1 = some a1 := rfl
theorem pp2_1 {w : pm_H} {a : Nat} {x : Int32} {a0 a1 a2 a3 a4 a5 a6 : Value} : pm_pf w a (some (.inr (2, [a0, a1, a2, a3, a4, a5, a6]))) 2 1 0 (.int x) = some (pm_up w a (.inr (2, [a0, .int x, a2, a3, a4, a5, a6]))) := rfl
theorem pg2_2 {a0 a1 a2 a3 a4 a5 a6 : Value} : pm_gf (some (.inr (2, [a0, a1, a2, a3, a4, a5, a6]))) 2 2 = some a2 := rfl
theorem pp2_2 {w : pm_H} {a : Nat} {x : Int32} {a0 a1 a2 a3 a4 a5 a6 : Value} : pm_pf w a (some (.inr (2, [a0, a1, a2, a3, a4, a5, a6]))) 2 2 0 (.int x) = some (pm_up w a (.inr (2, [a0, a1, .int x, a3, a4, a5, a6]))) := rfl
theorem pg2_3 {a0 a1 a2 a3 a4 a5 a6 : Value} : pm_gf (some (.inr (2, [a0, a1, a2, a3, a4, a5, a6]))) 2 3 = some a3 := rfl
theorem pp2_3 {w : pm_H} {a : Nat} {x : Int32} {a0 a1 a2 a3 a4 a5 a6 : Value} : pm_pf w a (some (.inr (2, [a0, a1, a2, a3, a4, a5, a6]))) 2 3 0 (.int x) = some (pm_up w a (.inr (2, [a0, a1, a2, .int x, a4, a5, a6]))) := rfl
theorem pg2_4 {a0 a1 a2 a3 a4 a5 a6 : Value} : pm_gf (some (.inr (2, [a0, a1, a2, a3, a4, a5, a6]))) 2 4 = some a4 := rfl
theorem pp2_4 {w : pm_H} {a : Nat} {x : Int32} {a0 a1 a2 a3 a4 a5 a6 : Value} : pm_pf w a (some (.inr (2, [a0, a1, a2, a3, a4, a5, a6]))) 2 4 0 (.int x) = some (pm_up w a (.inr (2, [a0, a1, a2, a3, .int x, a5, a6]))) := rfl
theorem pg2_5 {a0 a1 a2 a3 a4 a5 a6 : Value} : pm_gf (some (.inr (2, [a0, a1, a2, a3, a4, a5, a6]))) 2 5 = some a5 := rfl
theorem pp2_5 {w : pm_H} {a : Nat} {x : Int32} {a0 a1 a2 a3 a4 a5 a6 : Value} : pm_pf w a (some (.inr (2, [a0, a1, a2, a3, a4, a5, a6]))) 2 5 0 (.int x) = some (pm_up w a (.inr (2, [a0, a1, a2, a3, a4, .int x, a6]))) := rfl
theorem pg2_6 {a0 a1 a2 a3 a4 a5 a6 : Value} : pm_gf (some (.inr (2, [a0, a1, a2, a3, a4, a5, a6]))) 2 6 = some a6 := rfl
theorem pp2_6 {w : pm_H} {a : Nat} {x : Int32} {a0 a1 a2 a3 a4 a5 a6 : Value} : pm_pf w a (some (.inr (2, [a0, a1, a2, a3, a4, a5, a6]))) 2 6 0 (.int x) = some (pm_up w a (.inr (2, [a0, a1, a2, a3, a4, a5, .int x]))) := rfl
theorem pg3_0 {a0 a1 : Value} : pm_gf (some (.inr (3, [a0, a1]))) 3 0 = some a0 := rfl
theorem pg3_1 {a0 a1 : Value} : pm_gf (some (.inr (3, [a0, a1]))) 3 1 = some a1 := rfl
theorem pp3_1 {w : pm_H} {a : Nat} {x : Int32} {a0 a1 : Value} : pm_pf w a (some (.inr (3, [a0, a1]))) 3 1 0 (.int x) = some (pm_up w a (.inr (3, [a0, .int x]))) := rfl
theorem pg4_0 {a0 a1 a2 a3 a4 a5 a6 a7 a8 a9 a10 a11 : Value} : pm_gf (some (.inr (4, [a0, a1, a2, a3, a4, a5, a6, a7, a8, a9, a10, a11]))) 4 0 = some a0 := rfl
theorem pp4_0 {w : pm_H} {a : Nat} {x : Int32} {a0 a1 a2 a3 a4 a5 a6 a7 a8 a9 a10 a11 : Value} : pm_pf w a (some (.inr (4, [a0, a1, a2, a3, a4, a5, a6, a7, a8, a9, a10, a11]))) 4 0 0 (.int x) = some (pm_up w a (.inr (4, [.int x, a1, a2, a3, a4, a5, a6, a7, a8, a9, a10, a11]))) := rfl
theorem pg4_1 {a0 a1 a2 a3 a4 a5 a6 a7 a8 a9 a10 a11 : Value} : pm_gf (some (.inr (4, [a0, a1, a2, a3, a4, a5, a6, a7, a8, a9, a10, a11]))) 4 1 = some a1 := rfl
theorem pg4_2 {a0 a1 a2 a3 a4 a5 a6 a7 a8 a9 a10 a11 : Value} : pm_gf (some (.inr (4, [a0, a1, a2, a3, a4, a5, a6, a7, a8, a9, a10, a11]))) 4 2 = some a2 := rfl
theorem pg4_3 {a0 a1 a2 a3 a4 a5 a6 a7 a8 a9 a10 a11 : Value} : pm_gf (some (.inr (4, [a0, a1, a2, a3, a4, a5, a6, a7, a8, a9, a10, a11]))) 4 3 = some a3 := rfl
theorem pp4_3 {w : pm_H} {a : Nat} {x : Int32} {a0 a1 a2 a3 a4 a5 a6 a7 a8 a9 a10 a11 : Value} : pm_pf w a (some (.inr (4, [a0, a1, a2, a3, a4, a5, a6, a7, a8, a9, a10, a11]))) 4 3 0 (.int x) = some (pm_up w a (.inr (4, [a0, a1, a2, .int x, a4, a5, a6, a7, a8, a9, a10, a11]))) := rfl
theorem pg4_4 {a0 a1 a2 a3 a4 a5 a6 a7 a8 a9 a10 a11 : Value} : pm_gf (some (.inr (4, [a0, a1, a2, a3, a4, a5, a6, a7, a8, a9, a10, a11]))) 4 4 = some a4 := rfl
theorem pg4_5 {a0 a1 a2 a3 a4 a5 a6 a7 a8 a9 a10 a11 : Value} : pm_gf (some (.inr (4, [a0, a1, a2, a3, a4, a5, a6, a7, a8, a9, a10, a11]))) 4 5 = some a5 := rfl
theorem pg4_6 {a0 a1 a2 a3 a4 a5 a6 a7 a8 a9 a10 a11 : Value} : pm_gf (some (.inr (4, [a0, a1, a2, a3, a4, a5, a6, a7, a8, a9, a10, a11]))) 4 6 = some a6 := rfl
theorem pg4_7 {a0 a1 a2 a3 a4 a5 a6 a7 a8 a9 a10 a11 : Value} : pm_gf (some (.inr (4, [a0, a1, a2, a3, a4, a5, a6, a7, a8, a9, a10, a11]))) 4 7 = some a7 := rfl
theorem pp4_7 {w : pm_H} {a : Nat} {x : Int32} {a0 a1 a2 a3 a4 a5 a6 a7 a8 a9 a10 a11 : Value} : pm_pf w a (some (.inr (4, [a0, a1, a2, a3, a4, a5, a6, a7, a8, a9, a10, a11]))) 4 7 0 (.int x) = some (pm_up w a (.inr (4, [a0, a1, a2, a3, a4, a5, a6, .int x, a8, a9, a10, a11]))) := rfl
theorem pg4_8 {a0 a1 a2 a3 a4 a5 a6 a7 a8 a9 a10 a11 : Value} : pm_gf (some (.inr (4, [a0, a1, a2, a3, a4, a5, a6, a7, a8, a9, a10, a11]))) 4 8 = some a8 := rfl
theorem pg4_9 {a0 a1 a2 a3 a4 a5 a6 a7 a8 a9 a10 a11 : Value} : pm_gf (some (.inr (4, [a0, a1, a2, a3, a4, a5, a6, a7, a8, a9, a10, a11]))) 4 9 = some a9 := rfl
theorem pg4_10 {a0 a1 a2 a3 a4 a5 a6 a7 a8 a9 a10 a11 : Value} : pm_gf (some (.inr (4, [a0, a1, a2, a3, a4, a5, a6, a7, a8, a9, a10, a11]))) 4 10 = some a10 := rfl
theorem pg4_11 {a0 a1 a2 a3 a4 a5 a6 a7 a8 a9 a10 a11 : Value} : pm_gf (some (.inr (4, [a0, a1, a2, a3, a4, a5, a6, a7, a8, a9, a10, a11]))) 4 11 = some a11 := rfl
theorem pg5_0 {a0 a1 a2 a3 a4 a5 a6 : Value} : pm_gf (some (.inr (5, [a0, a1, a2, a3, a4, a5, a6]))) 5 0 = some a0 := rfl
theorem pg5_1 {a0 a1 a2 a3 a4 a5 a6 : Value} : pm_gf (some (.inr (5, [a0, a1, a2, a3, a4, a5, a6]))) 5 1 = some a1 := rfl
theorem pg5_2 {a0 a1 a2 a3 a4 a5 a6 : Value} : pm_gf (some (.inr (5, [a0, a1, a2, a3, a4, a5, a6]))) 5 2 = some a2 := rfl
theorem pg5_3 {a0 a1 a2 a3 a4 a5 a6 : Value} : pm_gf (some (.inr (5, [a0, a1, a2, a3, a4, a5, a6]))) 5 3 = some a3 := rfl
theorem pg5_4 {a0 a1 a2 a3 a4 a5 a6 : Value} : pm_gf (some (.inr (5, [a0, a1, a2, a3, a4, a5, a6]))) 5 4 = some a4 := rfl
theorem pp5_4 {w : pm_H} {a : Nat} {x : Nat} {a0 a1 a2 a3 a4 a5 a6 : Value} : pm_pf w a (some (.inr (5, [a0, a1, a2, a3, a4, a5, a6]))) 5 4 2 (.ref x) = some (pm_up w a (.inr (5, [a0, a1, a2, a3, .ref x, a5, a6]))) := rfl
theorem pg5_5 {a0 a1 a2 a3 a4 a5 a6 : Value} : pm_gf (some (.inr (5, [a0, a1, a2, a3, a4, a5, a6]))) 5 5 = some a5 := rfl
theorem pp5_5 {w : pm_H} {a : Nat} {x : Nat} {a0 a1 a2 a3 a4 a5 a6 : Value} : pm_pf w a (some (.inr (5, [a0, a1, a2, a3, a4, a5, a6]))) 5 5 2 (.ref x) = some (pm_up w a (.inr (5, [a0, a1, a2, a3, a4, .ref x, a6]))) := rfl
theorem pg5_6 {a0 a1 a2 a3 a4 a5 a6 : Value} : pm_gf (some (.inr (5, [a0, a1, a2, a3, a4, a5, a6]))) 5 6 = some a6 := rfl
theorem pp5_6 {w : pm_H} {a : Nat} {x : Int32} {a0 a1 a2 a3 a4 a5 a6 : Value} : pm_pf w a (some (.inr (5, [a0, a1, a2, a3, a4, a5, a6]))) 5 6 0 (.int x) = some (pm_up w a (.inr (5, [a0, a1, a2, a3, a4, a5, .int x]))) := rfl
theorem pg6_0 {a0 a1 a2 a3 a4 a5 a6 a7 a8 a9 a10 a11 a12 a13 a14 a15 a16 a17 a18 a19 a20 a21 a22 : Value} : pm_gf (some (.inr (6, [a0, a1, a2, a3, a4, a5, a6, a7, a8, a9, a10, a11, a12, a13, a14, a15, a16, a17, a18, a19, a20, a21, a22]))) 6 0 = some a0 := rfl
theorem pp6_0 {w : pm_H} {a : Nat} {x : Int32} {a0 a1 a2 a3 a4 a5 a6 a7 a8 a9 a10 a11 a12 a13 a14 a15 a16 a17 a18 a19 a20 a21 a22 : Value} : pm_pf w a (some (.inr (6, [a0, a1, a2, a3, a4, a5, a6, a7, a8, a9, a10, a11, a12, a13, a14, a15, a16, a17, a18, a19, a20, a21, a22]))) 6 0 0 (.int x) = some (pm_up w a (.inr (6, [.int x, a1, a2, a3, a4, a5, a6, a7, a8, a9, a10, a11, a12, a13, a14, a15, a16, a17, a18, a19, a20, a21, a22]))) := rfl
theorem pg6_1 {a0 a1 a2 a3 a4 a5 a6 a7 a8 a9 a10 a11 a12 a13 a14 a15 a16 a17 a18 a19 a20 a21 a22 : Value} : pm_gf (some (.inr (6, [a0, a1, a2, a3, a4, a5, a6, a7, a8, a9, a10, a11, a12, a13, a14, a15, a16, a17, a18, a19, a20, a21, a22]))) 6 1 = some a1 := rfl
theorem pg6_2 {a0 a1 a2 a3 a4 a5 a6 a7 a8 a9 a10 a11 a12 a13 a14 a15 a16 a17 a18 a19 a20 a21 a22 : Value} : pm_gf (some (.inr (6, [a0, a1, a2, a3, a4, a5, a6, a7, a8, a9, a10, a11, a12, a13, a14, a15, a16, a17, a18, a19, a20, a21, a22]))) 6 2 = some a2 := rfl
theorem pp6_2 {w : pm_H} {a : Nat} {x : Int32} {a0 a1 a2 a3 a4 a5 a6 a7 a8 a9 a10 a11 a12 a13 a14 a15 a16 a17 a18 a19 a20 a21 a22 : Value} : pm_pf w a (some (.inr (6, [a0, a1, a2, a3, a4, a5, a6, a7, a8, a9, a10, a11, a12, a13, a14, a15, a16, a17, a18, a19, a20, a21, a22]))) 6 2 0 (.int x) = some (pm_up w a (.inr (6, [a0, a1, .int x, a3, a4, a5, a6, a7, a8, a9, a10, a11, a12, a13, a14, a15, a16, a17, a18, a19, a20, a21, a22]))) := rfl
theorem pg6_3 {a0 a1 a2 a3 a4 a5 a6 a7 a8 a9 a10 a11 a12 a13 a14 a15 a16 a17 a18 a19 a20 a21 a22 : Value} : pm_gf (some (.inr (6, [a0, a1, a2, a3, a4, a5, a6, a7, a8, a9, a10, a11, a12, a13, a14, a15, a16, a17, a18, a19, a20, a21, a22]))) 6 3 = some a3 := rfl
theorem pp6_3 {w : pm_H} {a : Nat} {x : Int32} {a0 a1 a2 a3 a4 a5 a6 a7 a8 a9 a10 a11 a12 a13 a14 a15 a16 a17 a18 a19 a20 a21 a22 : Value} : pm_pf w a (some (.inr (6, [a0, a1, a2, a3, a4, a5, a6, a7, a8, a9, a10, a11, a12, a13, a14, a15, a16, a17, a18, a19, a20, a21, a22]))) 6 3 0 (.int x) = some (pm_up w a (.inr (6, [a0, a1, a2, .int x, a4, a5, a6, a7, a8, a9, a10, a11, a12, a13, a14, a15, a16, a17, a18, a19, a20, a21, a22]))) := rfl
theorem pg6_4 {a0 a1 a2 a3 a4 a5 a6 a7 a8 a9 a10 a11 a12 a13 a14 a15 a16 a17 a18 a19 a20 a21 a22 : Value} : pm_gf (some (.inr (6, [a0, a1, a2, a3, a4, a5, a6, a7, a8, a9, a10, a11, a12, a13, a14, a15, a16, a17, a18, a19, a20, a21, a22]))) 6 4 = some a4 := rfl
theorem pp6_4 {w : pm_H} {a : Nat} {x : Int32} {a0 a1 a2 a3 a4 a5 a6 a7 a8 a9 a10 a11 a12 a13 a14 a15 a16 a17 a18 a19 a20 a21 a22 : Value} : pm_pf w a (some (.inr (6, [a0, a1, a2, a3, a4, a5, a6, a7, a8, a9, a10, a11, a12, a13, a14, a15, a16, a17, a18, a19, a20, a21, a22]))) 6 4 0 (.int x) = some (pm_up w a (.inr (6, [a0, a1, a2, a3, .int x, a5, a6, a7, a8, a9, a10, a11, a12, a13, a14, a15, a16, a17, a18, a19, a20, a21, a22]))) := rfl
theorem pg6_5 {a0 a1 a2 a3 a4 a5 a6 a7 a8 a9 a10 a11 a12 a13 a14 a15 a16 a17 a18 a19 a20 a21 a22 : Value} : pm_gf (some (.inr (6, [a0, a1, a2, a3, a4, a5, a6, a7, a8, a9, a10, a11, a12, a13, a14, a15, a16, a17, a18, a19, a20, a21, a22]))) 6 5 = some a5 := rfl
theorem pp6_5 {w : pm_H} {a : Nat} {x : Int32} {a0 a1 a2 a3 a4 a5 a6 a7 a8 a9 a10 a11 a12 a13 a14 a15 a16 a17 a18 a19 a20 a21 a22 : Value} : pm_pf w a (some (.inr (6, [a0, a1, a2, a3, a4, a5, a6, a7, a8, a9, a10, a11, a12, a13, a14, a15, a16, a17, a18, a19, a20, a21, a22]))) 6 5 0 (.int x) = some (pm_up w a (.inr (6, [a0, a1, a2, a3, a4, .int x, a6, a7, a8, a9, a10, a11, a12, a13, a14, a15, a16, a17, a18, a19, a20, a21, a22]))) := rfl
theorem pg6_6 {a0 a1 a2 a3 a4 a5 a6 a7 a8 a9 a10 a11 a12 a13 a14 a15 a16 a17 a18 a19 a20 a21 a22 : Value} : pm_gf (some (.inr (6, [a0, a1, a2, a3, a4, a5, a6, a7, a8, a9, a10, a11, a12, a13, a14, a15, a16, a17, a18, a19, a20, a21, a22]))) 6 6 = some a6 := rfl
theorem pp6_6 {w : pm_H} {a : Nat} {x : Int32} {a0 a1 a2 a3 a4 a5 a6 a7 a8 a9 a10 a11 a12 a13 a14 a15 a16 a17 a18 a19 a20 a21 a22 : Value} : pm_pf w a (some (.inr (6, [a0, a1, a2, a3, a4, a5, a6, a7, a8, a9, a10, a11, a12, a13, a14, a15, a16, a17, a18, a19, a20, a21, a22]))) 6 6 0 (.int x) = some (pm_up w a (.inr (6, [a0, a1, a2, a3, a4, a5, .int x, a7, a8, a9, a10, a11, a12, a13, a14, a15, a16, a17, a18, a19, a20, a21, a22]))) := rfl
theorem pg6_7 {a0 a1 a2 a3 a4 a5 a6 a7 a8 a9 a10 a11 a12 a13 a14 a15 a16 a17 a18 a19 a20 a21 a22 : Value} : pm_gf (some (.inr (6, [a0, a1, a2, a3, a4, a5, a6, a7, a8, a9, a10, a11, a12, a13, a14, a15, a16, a17, a18, a19, a20, a21, a22]))) 6 7 = some a7 := rfl
theorem pp6_7 {w : pm_H} {a : Nat} {x : Int32} {a0 a1 a2 a3 a4 a5 a6 a7 a8 a9 a10 a11 a12 a13 a14 a15 a16 a17 a18 a19 a20 a21 a22 : Value} : pm_pf w a (some (.inr (6, [a0, a1, a2, a3, a4, a5, a6, a7, a8, a9, a10, a11, a12, a13, a14, a15, a16, a17, a18, a19, a20, a21, a22]))) 6 7 0 (.int x) = some (pm_up w a (.inr (6, [a0, a1, a2, a3, a4, a5, a6, .int x, a8, a9, a10, a11, a12, a13, a14, a15, a16, a17, a18, a19, a20, a21, a22]))) := rfl
theorem pg6_8 {a0 a1 a2 a3 a4 a5 a6 a7 a8 a9 a10 a11 a12 a13 a14 a15 a16 a17 a18 a19 a20 a21 a22 : Value} : pm_gf (some (.inr (6, [a0, a1, a2, a3, a4, a5, a6, a7, a8, a9, a10, a11, a12, a13, a14, a15, a16, a17, a18, a19, a20, a21, a22]))) 6 8 = some a8 := rfl
theorem pp6_8 {w : pm_H} {a : Nat} {x : Int32} {a0 a1 a2 a3 a4 a5 a6 a7 a8 a9 a10 a11 a12 a13 a14 a15 a16 a17 a18 a19 a20 a21 a22 : Value} : pm_pf w a (some (.inr (6, [a0, a1, a2, a3, a4, a5, a6, a7, a8, a9, a10, a11, a12, a13, a14, a15, a16, a17, a18, a19, a20, a21, a22]))) 6 8 0 (.int x) = some (pm_up w a (.inr (6, [a0, a1, a2, a3, a4, a5, a6, a7, .int x, a9, a10, a11, a12, a13, a14, a15, a16, a17, a18, a19, a20, a21, a22]))) := rfl
theorem pg6_9 {a0 a1 a2 a3 a4 a5 a6 a7 a8 a9 a10 a11 a12 a13 a14 a15 a16 a17 a18 a19 a20 a21 a22 : Value} : pm_gf (some (.inr (6, [a0, a1, a2, a3, a4, a5, a6, a7, a8, a9, a10, a11, a12, a13, a14, a15, a16, a17, a18, a19, a20, a21, a22]))) 6 9 = some a9 := rfl
theorem pp6_9 {w : pm_H} {a : Nat} {x : Int32} {a0 a1 a2 a3 a4 a5 a6 a7 a8 a9 a10 a11 a12 a13 a14 a15 a16 a17 a18 a19 a20 a21 a22 : Value} : pm_pf w a (some (.inr (6, [a0, a1, a2, a3, a4, a5, a6, a7, a8, a9, a10, a11, a12, a13, a14, a15, a16, a17, a18, a19, a20, a21, a22]))) 6 9 0 (.int x) = some (pm_up w a (.inr (6, [a0, a1, a2, a3, a4, a5, a6, a7, a8, .int x, a10, a11, a12, a13, a14, a15, a16, a17, a18, a19, a20, a21, a22]))) := rfl
theorem pg6_10 {a0 a1 a2 a3 a4 a5 a6 a7 a8 a9 a10 a11 a12 a13 a14 a15 a16 a17 a18 a19 a20 a21 a22 : Value} : pm_gf (some (.inr (6, [a0, a1, a2, a3, a4, a5, a6, a7, a8, a9, a10, a11, a12, a13, a14, a15, a16, a17, a18, a19, a20, a21, a22]))) 6 10 = some a10 := rfl
theorem pp6_10 {w : pm_H} {a : Nat} {x : Int64} {a0 a1 a2 a3 a4 a5 a6 a7 a8 a9 a10 a11 a12 a13 a14 a15 a16 a17 a18 a19 a20 a21 a22 : Value} : pm_pf w a (some (.inr (6, [a0, a1, a2, a3, a4, a5, a6, a7, a8, a9, a10, a11, a12, a13, a14, a15, a16, a17, a18, a19, a20, a21, a22]))) 6 10 1 (.long x) = some (pm_up w a (.inr (6, [a0, a1, a2, a3, a4, a5, a6, a7, a8, a9, .long x, a11, a12, a13, a14, a15, a16, a17, a18, a19, a20, a21, a22]))) := rfl
theorem pg6_11 {a0 a1 a2 a3 a4 a5 a6 a7 a8 a9 a10 a11 a12 a13 a14 a15 a16 a17 a18 a19 a20 a21 a22 : Value} : pm_gf (some (.inr (6, [a0, a1, a2, a3, a4, a5, a6, a7, a8, a9, a10, a11, a12, a13, a14, a15, a16, a17, a18, a19, a20, a21, a22]))) 6 11 = some a11 := rfl
theorem pg6_12 {a0 a1 a2 a3 a4 a5 a6 a7 a8 a9 a10 a11 a12 a13 a14 a15 a16 a17 a18 a19 a20 a21 a22 : Value} : pm_gf (some (.inr (6, [a0, a1, a2, a3, a4, a5, a6, a7, a8, a9, a10, a11, a12, a13, a14, a15, a16, a17, a18, a19, a20, a21, a22]))) 6 12 = some a12 := rfl
theorem pg6_13 {a0 a1 a2 a3 a4 a5 a6 a7 a8 a9 a10 a11 a12 a13 a14 a15 a16 a17 a18 a19 a20 a21 a22 : Value} : pm_gf (some (.inr (6, [a0, a1, a2, a3, a4, a5, a6, a7, a8, a9, a10, a11, a12, a13, a14, a15, a16, a17, a18, a19, a20, a21, a22]))) 6 13 = some a13 := rfl
theorem pg6_14 {a0 a1 a2 a3 a4 a5 a6 a7 a8 a9 a10 a11 a12 a13 a14 a15 a16 a17 a18 a19 a20 a21 a22 : Value} : pm_gf (some (.inr (6, [a0, a1, a2, a3, a4, a5, a6, a7, a8, a9, a10, a11, a12, a13, a14, a15, a16, a17, a18, a19, a20, a21, a22]))) 6 14 = some a14 := rfl
theorem pp6_14 {w : pm_H} {a : Nat} {x : Int32} {a0 a1 a2 a3 a4 a5 a6 a7 a8 a9 a10 a11 a12 a13 a14 a15 a16 a17 a18 a19 a20 a21 a22 : Value} : pm_pf w a (some (.inr (6, [a0, a1, a2, a3, a4, a5, a6, a7, a8, a9, a10, a11, a12, a13, a14, a15, a16, a17, a18, a19, a20, a21, a22]))) 6 14 0 (.int x) = some (pm_up w a (.inr (6, [a0, a1, a2, a3, a4, a5, a6, a7, a8, a9, a10, a11, a12, a13, .int x, a15, a16, a17, a18, a19, a20, a21, a22]))) := rfl
theorem pg6_15 {a0 a1 a2 a3 a4 a5 a6 a7 a8 a9 a10 a11 a12 a13 a14 a15 a16 a17 a18 a19 a20 a21 a22 : Value} : pm_gf (some (.inr (6, [a0, a1, a2, a3, a4, a5, a6, a7, a8, a9, a10, a11, a12, a13, a14, a15, a16, a17, a18, a19, a20, a21, a22]))) 6 15 = some a15 := rfl
theorem pg6_16 {a0 a1 a2 a3 a4 a5 a6 a7 a8 a9 a10 a11 a12 a13 a14 a15 a16 a17 a18 a19 a20 a21 a22 : Value} : pm_gf (some (.inr (6, [a0, a1, a2, a3, a4, a5, a6, a7, a8, a9, a10, a11, a12, a13, a14, a15, a16, a17, a18, a19, a20, a21, a22]))) 6 16 = some a16 := rfl
theorem pg6_17 {a0 a1 a2 a3 a4 a5 a6 a7 a8 a9 a10 a11 a12 a13 a14 a15 a16 a17 a18 a19 a20 a21 a22 : Value} : pm_gf (some (.inr (6, [a0, a1, a2, a3, a4, a5, a6, a7, a8, a9, a10, a11, a12, a13, a14, a15, a16, a17, a18, a19, a20, a21, a22]))) 6 17 = some a17 := rfl
theorem pg6_18 {a0 a1 a2 a3 a4 a5 a6 a7 a8 a9 a10 a11 a12 a13 a14 a15 a16 a17 a18 a19 a20 a21 a22 : Value} : pm_gf (some (.inr (6, [a0, a1, a2, a3, a4, a5, a6, a7, a8, a9, a10, a11, a12, a13, a14, a15, a16, a17, a18, a19, a20, a21, a22]))) 6 18 = some a18 := rfl
theorem pp6_18 {w : pm_H} {a : Nat} {x : Int32} {a0 a1 a2 a3 a4 a5 a6 a7 a8 a9 a10 a11 a12 a13 a14 a15 a16 a17 a18 a19 a20 a21 a22 : Value} : pm_pf w a (some (.inr (6, [a0, a1, a2, a3, a4, a5, a6, a7, a8, a9, a10, a11, a12, a13, a14, a15, a16, a17, a18, a19, a20, a21, a22]))) 6 18 0 (.int x) = some (pm_up w a (.inr (6, [a0, a1, a2, a3, a4, a5, a6, a7, a8, a9, a10, a11, a12, a13, a14, a15, a16, a17, .int x, a19, a20, a21, a22]))) := rfl
theorem pg6_19 {a0 a1 a2 a3 a4 a5 a6 a7 a8 a9 a10 a11 a12 a13 a14 a15 a16 a17 a18 a19 a20 a21 a22 : Value} : pm_gf (some (.inr (6, [a0, a1, a2, a3, a4, a5, a6, a7, a8, a9, a10, a11, a12, a13, a14, a15, a16, a17, a18, a19, a20, a21, a22]))) 6 19 = some a19 := rfl
theorem pp6_19 {w : pm_H} {a : Nat} {x : Int32} {a0 a1 a2 a3 a4 a5 a6 a7 a8 a9 a10 a11 a12 a13 a14 a15 a16 a17 a18 a19 a20 a21 a22 : Value} : pm_pf w a (some (.inr (6, [a0, a1, a2, a3, a4, a5, a6, a7, a8, a9, a10, a11, a12, a13, a14, a15, a16, a17, a18, a19, a20, a21, a22]))) 6 19 0 (.int x) = some (pm_up w a (.inr (6, [a0, a1, a2, a3, a4, a5, a6, a7, a8, a9, a10, a11, a12, a13, a14, a15, a16, a17, a18, .int x, a20, a21, a22]))) := rfl
theorem pg6_20 {a0 a1 a2 a3 a4 a5 a6 a7 a8 a9 a10 a11 a12 a13 a14 a15 a16 a17 a18 a19 a20 a21 a22 : Value} : pm_gf (some (.inr (6, [a0, a1, a2, a3, a4, a5, a6, a7, a8, a9, a10, a11, a12, a13, a14, a15, a16, a17, a18, a19, a20, a21, a22]))) 6 20 = some a20 := rfl
theorem pp6_20 {w : pm_H} {a : Nat} {x : Int32} {a0 a1 a2 a3 a4 a5 a6 a7 a8 a9 a10 a11 a12 a13 a14 a15 a16 a17 a18 a19 a20 a21 a22 : Value} : pm_pf w a (some (.inr (6, [a0, a1, a2, a3, a4, a5, a6, a7, a8, a9, a10, a11, a12, a13, a14, a15, a16, a17, a18, a19, a20, a21, a22]))) 6 20 0 (.int x) = some (pm_up w a (.inr (6, [a0, a1, a2, a3, a4, a5, a6, a7, a8, a9, a10, a11, a12, a13, a14, a15, a16, a17, a18, a19, .int x, a21, a22]))) := rfl
theorem pg6_21 {a0 a1 a2 a3 a4 a5 a6 a7 a8 a9 a10 a11 a12 a13 a14 a15 a16 a17 a18 a19 a20 a21 a22 : Value} : pm_gf (some (.inr (6, [a0, a1, a2, a3, a4, a5, a6, a7, a8, a9, a10, a11, a12, a13, a14, a15, a16, a17, a18, a19, a20, a21, a22]))) 6 21 = some a21 := rfl
theorem pp6_21 {w : pm_H} {a : Nat} {x : Int64} {a0 a1 a2 a3 a4 a5 a6 a7 a8 a9 a10 a11 a12 a13 a14 a15 a16 a17 a18 a19 a20 a21 a22 : Value} : pm_pf w a (some (.inr (6, [a0, a1, a2, a3, a4, a5, a6, a7, a8, a9, a10, a11, a12, a13, a14, a15, a16, a17, a18, a19, a20, a21, a22]))) 6 21 1 (.long x) = some (pm_up w a (.inr (6, [a0, a1, a2, a3, a4, a5, a6, a7, a8, a9, a10, a11, a12, a13, a14, a15, a16, a17, a18, a19, a20, .long x, a22]))) := rfl
theorem pg6_22 {a0 a1 a2 a3 a4 a5 a6 a7 a8 a9 a10 a11 a12 a13 a14 a15 a16 a17 a18 a19 a20 a21 a22 : Value} : pm_gf (some (.inr (6, [a0, a1, a2, a3, a4, a5, a6, a7, a8, a9, a10, a11, a12, a13, a14, a15, a16, a17, a18, a19, a20, a21, a22]))) 6 22 = some a22 := rfl
theorem pp6_22 {w : pm_H} {a : Nat} {x : Int64} {a0 a1 a2 a3 a4 a5 a6 a7 a8 a9 a10 a11 a12 a13 a14 a15 a16 a17 a18 a19 a20 a21 a22 : Value} : pm_pf w a (some (.inr (6, [a0, a1, a2, a3, a4, a5, a6, a7, a8, a9, a10, a11, a12, a13, a14, a15, a16, a17, a18, a19, a20, a21, a22]))) 6 22 1 (.long x) = some (pm_up w a (.inr (6, [a0, a1, a2, a3, a4, a5, a6, a7, a8, a9, a10, a11, a12, a13, a14, a15, a16, a17, a18, a19, a20, a21, .long x]))) := rfl
theorem pe0 {w : pm_H} {x0 : Nat} {x1 : Nat} {x2 : Int32} {x3 : Int32} {x4 : Int32} : pm_call 0 [.ref x0, .ref x1, .int x2, .int x3, .int x4] w = pm_ev 0 0 [some (.ref x0), some (.ref x1), some (.int x2), some (.int x3), some (.int x4)] [] w := rfl
theorem pe1 {w : pm_H} {x0 : Nat} {x1 : Nat} {x2 : Int32} {x3 : Int32} {x4 : Int32} : pm_call 1 [.ref x0, .ref x1, .int x2, .int x3, .int x4] w = pm_ev 1 0 [some (.ref x0), some (.ref x1), some (.int x2), some (.int x3), some (.int x4), none] [] w := rfl
theorem pe2 {w : pm_H} {x0 : Nat} {x1 : Int32} : pm_call 2 [.ref x0, .int x1] w = pm_ev 2 0 [some (.ref x0), some (.int x1), none] [] w := rfl
theorem pe3 {w : pm_H} {x0 : Nat} {x1 : Int32} {x2 : Int32} : pm_call 3 [.ref x0, .int x1, .int x2] w = pm_ev 3 0 [some (.ref x0), some (.int x1), some (.int x2)] [] w := rfl
theorem pe4 {w : pm_H} {x0 : Nat} {x1 : Int64} {x2 : Int64} : pm_call 4 [.ref x0, .long x1, .long x2] w = pm_ev 4 0 [some (.ref x0), some (.long x1), none, some (.long x2), none, none, none] [] w := rfl
theorem pe5 {w : pm_H} {x0 : Nat} : pm_call 5 [.ref x0] w = pm_ev 5 0 [some (.ref x0), none, none, none, none, none, none, none, none, none, none] [] w := rfl
theorem pe6 {w : pm_H} {x0 : Nat} {x1 : Int32} {x2 : Int64} : pm_call 6 [.ref x0, .int x1, .long x2] w = pm_ev 6 0 [some (.ref x0), some (.int x1), some (.long x2), none, none, none, none, none, none] [] w := rfl
theorem pe7 {w : pm_H} {x0 : Nat} : pm_call 7 [.ref x0] w = pm_ev 7 0 [some (.ref x0)] [] w := rfl
theorem pe8 {w : pm_H} {x0 : Nat} : pm_call 8 [.ref x0] w = pm_ev 8 0 [some (.ref x0), none, none] [] w := rfl
theorem pe9 {w : pm_H} {x0 : Nat} {x1 : Int32} {x2 : Int32} {x3 : Int32} : pm_call 9 [.ref x0, .int x1, .int x2, .int x3] w = pm_ev 9 0 [some (.ref x0), some (.int x1), some (.int x2), some (.int x3)] [] w := rfl
theorem pe10 {w : pm_H} {x0 : Nat} : pm_call 10 [.ref x0] w = pm_ev 10 0 [some (.ref x0), none] [] w := rfl
theorem pe11 {w : pm_H} {x0 : Nat} {x1 : Nat} : pm_call 11 [.ref x0, .ref x1] w = pm_ev 11 0 [some (.ref x0), some (.ref x1)] [] w := rfl
theorem pe12 {w : pm_H} {x0 : Nat} {x1 : Nat} : pm_call 12 [.ref x0, .ref x1] w = pm_ev 12 0 [some (.ref x0), some (.ref x1), none, none] [] w := rfl
theorem pe13 {w : pm_H} {x0 : Nat} : pm_call 13 [.ref x0] w = pm_ev 13 0 [some (.ref x0), none] [] w := rfl
theorem pe14 {w : pm_H} {x0 : Nat} : pm_call 14 [.ref x0] w = pm_ev 14 0 [some (.ref x0), none, none, none, none] [] w := rfl
theorem pe15 {w : pm_H} {x0 : Nat} {x1 : Int32} : pm_call 15 [.ref x0, .int x1] w = pm_ev 15 0 [some (.ref x0), some (.int x1)] [] w := rfl
theorem pe16 {w : pm_H} {x0 : Nat} {x1 : Int32} : pm_call 16 [.ref x0, .int x1] w = pm_ev 16 0 [some (.ref x0), some (.int x1)] [] w := rfl
theorem pe17 {w : pm_H} {x0 : Nat} {x1 : Nat} : pm_call 17 [.ref x0, .ref x1] w = pm_ev 17 0 [some (.ref x0), some (.ref x1)] [] w := rfl
theorem pe18 {w : pm_H} {x0 : Nat} {x1 : Nat} : pm_call 18 [.ref x0, .ref x1] w = pm_ev 18 0 [some (.ref x0), some (.ref x1), none] [] w := rfl
theorem pe19 {w : pm_H} {x0 : Nat} {x1 : Int32} {x2 : Int32} : pm_call 19 [.ref x0, .int x1, .int x2] w = pm_ev 19 0 [some (.ref x0), some (.int x1), some (.int x2)] [] w := rfl
theorem pe20 {w : pm_H} {x0 : Nat} : pm_call 20 [.ref x0] w = pm_ev 20 0 [some (.ref x0)] [] w := rfl
theorem pe21 {w : pm_H} {x0 : Nat} {x1 : Nat} {x2 : Int32} : pm_call 21 [.ref x0, .ref x1, .int x2] w = pm_ev 21 0 [some (.ref x0), some (.ref x1), some (.int x2), none] [] w := rfl
theorem pe22 {w : pm_H} {x0 : Nat} {x1 : Nat} : pm_call 22 [.ref x0, .ref x1] w = pm_ev 22 0 [some (.ref x0), some (.ref x1)] [] w := rfl
theorem pe23 {w : pm_H} {x0 : Nat} {x1 : Nat} : pm_call 23 [.ref x0, .ref x1] w = pm_ev 23 0 [some (.ref x0), some (.ref x1), none] [] w := rfl
theorem pe24 {w : pm_H} {x0 : Nat} {x1 : Nat} : pm_call 24 [.ref x0, .ref x1] w = pm_ev 24 0 [some (.ref x0), some (.ref x1)] [] w := rfl
theorem pe25 {w : pm_H} {x0 : Nat} {x1 : Nat} {x2 : Int32} : pm_call 25 [.ref x0, .ref x1, .int x2] w = pm_ev 25 0 [some (.ref x0), some (.ref x1), some (.int x2), none] [] w := rfl
theorem pe26 {w : pm_H} {x0 : Nat} {x1 : Nat} {x2 : Int32} : pm_call 26 [.ref x0, .ref x1, .int x2] w = pm_ev 26 0 [some (.ref x0), some (.ref x1), some (.int x2), none, none, none] [] w := rfl
theorem pe27 {w : pm_H} {x0 : Nat} : pm_call 27 [.ref x0] w = pm_ev 27 0 [some (.ref x0)] [] w := rfl
theorem pe28 {w : pm_H} {x0 : Nat} {x1 : Int32} : pm_call 28 [.ref x0, .int x1] w = pm_ev 28 0 [some (.ref x0), some (.int x1), none] [] w := rfl
theorem pe29 {w : pm_H} {x0 : Nat} : pm_call 29 [.ref x0] w = pm_ev 29 0 [some (.ref x0), none] [] w := rfl
theorem pe30 {w : pm_H} {x0 : Nat} {x1 : Int32} : pm_call 30 [.ref x0, .int x1] w = pm_ev 30 0 [some (.ref x0), some (.int x1)] [] w := rfl
theorem pe31 {w : pm_H} {x0 : Nat} : pm_call 31 [.ref x0] w = pm_ev 31 0 [some (.ref x0), none, none] [] w := rfl
theorem pe32 {w : pm_H} {x0 : Nat} : pm_call 32 [.ref x0] w = pm_ev 32 0 [some (.ref x0)] [] w := rfl
theorem pe33 {w : pm_H} {x0 : Nat} : pm_call 33 [.ref x0] w = pm_ev 33 0 [some (.ref x0)] [] w := rfl
theorem pe34 {w : pm_H} {x0 : Nat} {x1 : Int32} : pm_call 34 [.ref x0, .int x1] w = pm_ev 34 0 [some (.ref x0), some (.int x1)] [] w := rfl
theorem pe35 {w : pm_H} {x0 : Nat} {x1 : Int32} : pm_call 35 [.ref x0, .int x1] w = pm_ev 35 0 [some (.ref x0), some (.int x1)] [] w := rfl
theorem pe36 {w : pm_H} {x0 : Nat} {x1 : Int32} : pm_call 36 [.ref x0, .int x1] w = pm_ev 36 0 [some (.ref x0), some (.int x1), none, none, none] [] w := rfl
theorem pe37 {w : pm_H} {x0 : Nat} {x1 : Int32} {x2 : Int32} {x3 : Int32} : pm_call 37 [.ref x0, .int x1, .int x2, .int x3] w = pm_ev 37 0 [some (.ref x0), some (.int x1), some (.int x2), some (.int x3)] [] w := rfl
theorem pe38 {w : pm_H} {x0 : Nat} : pm_call 38 [.ref x0] w = pm_ev 38 0 [some (.ref x0)] [] w := rfl
theorem pe39 {w : pm_H} {x0 : Nat} {x1 : Int32} {x2 : Int32} {x3 : Int32} {x4 : Int32} : pm_call 39 [.ref x0, .int x1, .int x2, .int x3, .int x4] w = pm_ev 39 0 [some (.ref x0), some (.int x1), some (.int x2), some (.int x3), some (.int x4)] [] w := rfl
theorem pe40 {w : pm_H} {x0 : Nat} {x1 : Int32} : pm_call 40 [.ref x0, .int x1] w = pm_ev 40 0 [some (.ref x0), some (.int x1)] [] w := rfl
theorem pe41 {w : pm_H} {x0 : Nat} {x1 : Int32} {x2 : Int32} : pm_call 41 [.ref x0, .int x1, .int x2] w = pm_ev 41 0 [some (.ref x0), some (.int x1), some (.int x2), none, none] [] w := rfl
theorem pe42 {w : pm_H} {x0 : Nat} {x1 : Int32} : pm_call 42 [.ref x0, .int x1] w = pm_ev 42 0 [some (.ref x0), some (.int x1)] [] w := rfl
theorem pe43 {w : pm_H} {x0 : Nat} {x1 : Int32} : pm_call 43 [.ref x0, .int x1] w = pm_ev 43 0 [some (.ref x0), some (.int x1)] [] w := rfl
theorem pe44 {w : pm_H} {x0 : Nat} : pm_call 44 [.ref x0] w = pm_ev 44 0 [some (.ref x0)] [] w := rfl
theorem pe45 {w : pm_H} {x0 : Nat} : pm_call 45 [.ref x0] w = pm_ev 45 0 [some (.ref x0)] [] w := rfl
theorem pe46 {w : pm_H} {x0 : Nat} {x1 : Int32} {x2 : Int32} : pm_call 46 [.ref x0, .int x1, .int x2] w = pm_ev 46 0 [some (.ref x0), some (.int x1), some (.int x2), none, none, none, none, none, none] [] w := rfl
theorem pe47 {w : pm_H} {x0 : Int32} : pm_call 47 [.int x0] w = pm_ev 47 0 [some (.int x0)] [] w := rfl
theorem pe48 {w : pm_H} {x0 : Nat} {x1 : Int32} {x2 : Int32} {x3 : Int32} : pm_call 48 [.ref x0, .int x1, .int x2, .int x3] w = pm_ev 48 0 [some (.ref x0), some (.int x1), some (.int x2), some (.int x3)] [] w := rfl
theorem pe49 {w : pm_H} {x0 : Nat} {x1 : Int32} {x2 : Int32} {x3 : Int32} : pm_call 49 [.ref x0, .int x1, .int x2, .int x3] w = pm_ev 49 0 [some (.ref x0), some (.int x1), some (.int x2), some (.int x3), none] [] w := rfl
theorem pe50 {w : pm_H} {x0 : Nat} {x1 : Int32} : pm_call 50 [.ref x0, .int x1] w = pm_ev 50 0 [some (.ref x0), some (.int x1)] [] w := rfl
theorem pe51 {w : pm_H} {x0 : Nat} {x1 : Int32} {x2 : Int32} : pm_call 51 [.ref x0, .int x1, .int x2] w = pm_ev 51 0 [some (.ref x0), some (.int x1), some (.int x2), none, none, none] [] w := rfl
theorem pe52 {w : pm_H} {x0 : Nat} {x1 : Int32} {x2 : Int32} {x3 : Int32} : pm_call 52 [.ref x0, .int x1, .int x2, .int x3] w = pm_ev 52 0 [some (.ref x0), some (.int x1), some (.int x2), some (.int x3), none, none, none, none] [] w := rfl
theorem pe53 {w : pm_H} {x0 : Nat} {x1 : Int32} {x2 : Int32} : pm_call 53 [.ref x0, .int x1, .int x2] w = pm_ev 53 0 [some (.ref x0), some (.int x1), some (.int x2), none, none, none, none] [] w := rfl
theorem pe54 {w : pm_H} {x0 : Nat} {x1 : Int32} {x2 : Int32} : pm_call 54 [.ref x0, .int x1, .int x2] w = pm_ev 54 0 [some (.ref x0), some (.int x1), some (.int x2)] [] w := rfl
theorem pe55 {w : pm_H} {x0 : Nat} {x1 : Int32} {x2 : Int32} {x3 : Int32} {x4 : Int32} {x5 : Int32} : pm_call 55 [.ref x0, .int x1, .int x2, .int x3, .int x4, .int x5] w = pm_ev 55 0 [some (.ref x0), some (.int x1), some (.int x2), some (.int x3), some (.int x4), some (.int x5)] [] w := rfl
theorem pe56 {w : pm_H} {x0 : Nat} {x1 : Int32} : pm_call 56 [.ref x0, .int x1] w = pm_ev 56 0 [some (.ref x0), some (.int x1)] [] w := rfl
theorem pe57 {w : pm_H} {x0 : Nat} : pm_call 57 [.ref x0] w = pm_ev 57 0 [some (.ref x0), none, none] [] w := rfl
theorem pe58 {w : pm_H} {x0 : Int32} : pm_call 58 [.int x0] w = pm_ev 58 0 [some (.int x0)] [] w := rfl
theorem pe59 {w : pm_H} {x0 : Int32} : pm_call 59 [.int x0] w = pm_ev 59 0 [some (.int x0)] [] w := rfl
theorem pe60 {w : pm_H} {x0 : Nat} : pm_call 60 [.ref x0] w = pm_ev 60 0 [some (.ref x0)] [] w := rfl
theorem pe61 {w : pm_H} {x0 : Nat} {x1 : Int32} : pm_call 61 [.ref x0, .int x1] w = pm_ev 61 0 [some (.ref x0), some (.int x1)] [] w := rfl
theorem pe62 {w : pm_H} {x0 : Nat} {x1 : Int32} {x2 : Int32} : pm_call 62 [.ref x0, .int x1, .int x2] w = pm_ev 62 0 [some (.ref x0), some (.int x1), some (.int x2)] [] w := rfl
theorem pe63 {w : pm_H} {x0 : Int32} : pm_call 63 [.int x0] w = pm_ev 63 0 [some (.int x0)] [] w := rfl
theorem pe64 {w : pm_H} {x0 : Nat} {x1 : Int32} {x2 : Int32} : pm_call 64 [.ref x0, .int x1, .int x2] w = pm_ev 64 0 [some (.ref x0), some (.int x1), some (.int x2)] [] w := rfl
theorem pe65 {w : pm_H} {x0 : Nat} {x1 : Int32} {x2 : Int32} : pm_call 65 [.ref x0, .int x1, .int x2] w = pm_ev 65 0 [some (.ref x0), some (.int x1), some (.int x2)] [] w := rfl
theorem pe66 {w : pm_H} {x0 : Nat} {x1 : Int32} {x2 : Int32} {x3 : Int32} : pm_call 66 [.ref x0, .int x1, .int x2, .int x3] w = pm_ev 66 0 [some (.ref x0), some (.int x1), some (.int x2), some (.int x3)] [] w := rfl
theorem pe67 {w : pm_H} {x0 : Nat} {x1 : Int32} {x2 : Int32} {x3 : Int32} {x4 : Int32} : pm_call 67 [.ref x0, .int x1, .int x2, .int x3, .int x4] w = pm_ev 67 0 [some (.ref x0), some (.int x1), some (.int x2), some (.int x3), some (.int x4)] [] w := rfl
theorem pe68 {w : pm_H} {x0 : Nat} {x1 : Int32} {x2 : Int32} : pm_call 68 [.ref x0, .int x1, .int x2] w = pm_ev 68 0 [some (.ref x0), some (.int x1), some (.int x2), none] [] w := rfl
theorem pe69 {w : pm_H} {x0 : Int32} : pm_call 69 [.int x0] w = pm_ev 69 0 [some (.int x0)] [] w := rfl
theorem pe70 {w : pm_H} {x0 : Nat} {x1 : Int32} {x2 : Int32} : pm_call 70 [.ref x0, .int x1, .int x2] w = pm_ev 70 0 [some (.ref x0), some (.int x1), some (.int x2), none] [] w := rfl
theorem pe71 {w : pm_H} {x0 : Int32} : pm_call 71 [.int x0] w = pm_ev 71 0 [some (.int x0)] [] w := rfl
theorem pe72 {w : pm_H} {x0 : Nat} : pm_call 72 [.ref x0] w = pm_ev 72 0 [some (.ref x0)] [] w := rfl
theorem pe73 {w : pm_H} {x0 : Nat} {x1 : Int32} {x2 : Int32} : pm_call 73 [.ref x0, .int x1, .int x2] w = pm_ev 73 0 [some (.ref x0), some (.int x1), some (.int x2)] [] w := rfl
theorem pe74 {w : pm_H} {x0 : Nat} {x1 : Int32} {x2 : Int32} : pm_call 74 [.ref x0, .int x1, .int x2] w = pm_ev 74 0 [some (.ref x0), some (.int x1), some (.int x2)] [] w := rfl
theorem pe75 {w : pm_H} {x0 : Int32} {x1 : Int32} : pm_call 75 [.int x0, .int x1] w = pm_ev 75 0 [some (.int x0), some (.int x1)] [] w := rfl
theorem pe76 {w : pm_H} {x0 : Nat} {x1 : Int32} {x2 : Int32} {x3 : Int32} {x4 : Int32} : pm_call 76 [.ref x0, .int x1, .int x2, .int x3, .int x4] w = pm_ev 76 0 [some (.ref x0), some (.int x1), some (.int x2), some (.int x3), some (.int x4)] [] w := rfl
theorem pe77 {w : pm_H} {x0 : Nat} {x1 : Int32} {x2 : Int32} {x3 : Int32} : pm_call 77 [.ref x0, .int x1, .int x2, .int x3] w = pm_ev 77 0 [some (.ref x0), some (.int x1), some (.int x2), some (.int x3)] [] w := rfl
theorem pe78 {w : pm_H} {x0 : Nat} {x1 : Int32} {x2 : Int32} {x3 : Int32} : pm_call 78 [.ref x0, .int x1, .int x2, .int x3] w = pm_ev 78 0 [some (.ref x0), some (.int x1), some (.int x2), some (.int x3)] [] w := rfl
theorem pe79 {w : pm_H} {x0 : Nat} {x1 : Int32} {x2 : Int32} {x3 : Int32} : pm_call 79 [.ref x0, .int x1, .int x2, .int x3] w = pm_ev 79 0 [some (.ref x0), some (.int x1), some (.int x2), some (.int x3)] [] w := rfl
theorem pe80 {w : pm_H} {x0 : Nat} {x1 : Int32} {x2 : Int32} {x3 : Int32} : pm_call 80 [.ref x0, .int x1, .int x2, .int x3] w = pm_ev 80 0 [some (.ref x0), some (.int x1), some (.int x2), some (.int x3)] [] w := rfl
theorem pe81 {w : pm_H} {x0 : Nat} {x1 : Int32} {x2 : Int32} {x3 : Int32} : pm_call 81 [.ref x0, .int x1, .int x2, .int x3] w = pm_ev 81 0 [some (.ref x0), some (.int x1), some (.int x2), some (.int x3)] [] w := rfl
theorem pe82 {w : pm_H} {x0 : Nat} {x1 : Int32} {x2 : Int32} {x3 : Int32} {x4 : Int32} : pm_call 82 [.ref x0, .int x1, .int x2, .int x3, .int x4] w = pm_ev 82 0 [some (.ref x0), some (.int x1), some (.int x2), some (.int x3), some (.int x4), none, none] [] w := rfl
theorem pe83 {w : pm_H} {x0 : Nat} {x1 : Int32} {x2 : Int32} {x3 : Int32} {x4 : Int32} : pm_call 83 [.ref x0, .int x1, .int x2, .int x3, .int x4] w = pm_ev 83 0 [some (.ref x0), some (.int x1), some (.int x2), some (.int x3), some (.int x4)] [] w := rfl
theorem pe84 {w : pm_H} {x0 : Nat} {x1 : Int32} {x2 : Int32} {x3 : Int32} {x4 : Int32} : pm_call 84 [.ref x0, .int x1, .int x2, .int x3, .int x4] w = pm_ev 84 0 [some (.ref x0), some (.int x1), some (.int x2), some (.int x3), some (.int x4), none, none, none, none, none, none, none, none] [] w := rfl
theorem pe85 {w : pm_H} {x0 : Nat} {x1 : Int32} {x2 : Int32} {x3 : Int32} : pm_call 85 [.ref x0, .int x1, .int x2, .int x3] w = pm_ev 85 0 [some (.ref x0), some (.int x1), some (.int x2), some (.int x3), none] [] w := rfl
theorem pe86 {w : pm_H} {x0 : Nat} : pm_call 86 [.ref x0] w = pm_ev 86 0 [some (.ref x0)] [] w := rfl
theorem pe87 {w : pm_H} {x0 : Nat} {x1 : Int32} {x2 : Int32} {x3 : Int32} {x4 : Int32} {x5 : Int32} : pm_call 87 [.ref x0, .int x1, .int x2, .int x3, .int x4, .int x5] w = pm_ev 87 0 [some (.ref x0), some (.int x1), some (.int x2), some (.int x3), some (.int x4), some (.int x5)] [] w := rfl
theorem pe88 {w : pm_H} {x0 : Nat} {x1 : Int32} : pm_call 88 [.ref x0, .int x1] w = pm_ev 88 0 [some (.ref x0), some (.int x1), none] [] w := rfl
theorem pe89 {w : pm_H} {x0 : Nat} {x1 : Int32} : pm_call 89 [.ref x0, .int x1] w = pm_ev 89 0 [some (.ref x0), some (.int x1)] [] w := rfl
theorem pe90 {w : pm_H} {x0 : Nat} : pm_call 90 [.ref x0] w = pm_ev 90 0 [some (.ref x0), none] [] w := rfl
theorem pe91 {w : pm_H} {x0 : Nat} : pm_call 91 [.ref x0] w = pm_ev 91 0 [some (.ref x0), none, none] [] w := rfl
theorem pe92 {w : pm_H} {x0 : Nat} : pm_call 92 [.ref x0] w = pm_ev 92 0 [some (.ref x0), none, none, none, none] [] w := rfl
theorem pe93 {w : pm_H} {x0 : Int32} : pm_call 93 [.int x0] w = pm_ev 93 0 [some (.int x0)] [] w := rfl
theorem pe94 {w : pm_H} {x0 : Int32} : pm_call 94 [.int x0] w = pm_ev 94 0 [some (.int x0)] [] w := rfl
theorem pe95 {w : pm_H} {x0 : Nat} {x1 : Int32} : pm_call 95 [.ref x0, .int x1] w = pm_ev 95 0 [some (.ref x0), some (.int x1)] [] w := rfl
theorem pe96 {w : pm_H} {x0 : Int32} {x1 : Int32} {x2 : Int32} : pm_call 96 [.int x0, .int x1, .int x2] w = pm_ev 96 0 [some (.int x0), some (.int x1), some (.int x2)] [] w := rfl
theorem pe97 {w : pm_H} {x0 : Nat} {x1 : Int32} : pm_call 97 [.ref x0, .int x1] w = pm_ev 97 0 [some (.ref x0), some (.int x1)] [] w := rfl
theorem pe98 {w : pm_H} {x0 : Nat} : pm_call 98 [.ref x0] w = pm_ev 98 0 [some (.ref x0)] [] w := rfl
theorem pe99 {w : pm_H} {x0 : Int32} {x1 : Int32} {x2 : Int32} {x3 : Int32} {x4 : Int32} {x5 : Int32} : pm_call 99 [.int x0, .int x1, .int x2, .int x3, .int x4, .int x5] w = pm_ev 99 0 [some (.int x0), some (.int x1), some (.int x2), some (.int x3), some (.int x4), some (.int x5)] [] w := rfl
theorem pe100 {w : pm_H} {x0 : Int32} {x1 : Int32} {x2 : Int32} : pm_call 100 [.int x0, .int x1, .int x2] w = pm_ev 100 0 [some (.int x0), some (.int x1), some (.int x2)] [] w := rfl
theorem pe101 {w : pm_H} {x0 : Nat} {x1 : Int64} : pm_call 101 [.ref x0, .long x1] w = pm_ev 101 0 [some (.ref x0), some (.long x1), none] [] w := rfl
theorem pe102 {w : pm_H} {x0 : Nat} {x1 : Int32} : pm_call 102 [.ref x0, .int x1] w = pm_ev 102 0 [some (.ref x0), some (.int x1)] [] w := rfl
theorem pe103 {w : pm_H} {x0 : Nat} {x1 : Int32} {x2 : Int32} {x3 : Int32} : pm_call 103 [.ref x0, .int x1, .int x2, .int x3] w = pm_ev 103 0 [some (.ref x0), some (.int x1), some (.int x2), some (.int x3)] [] w := rfl
theorem pe104 {w : pm_H} {x0 : Nat} {x1 : Int32} : pm_call 104 [.ref x0, .int x1] w = pm_ev 104 0 [some (.ref x0), some (.int x1), none] [] w := rfl
theorem pe105 {w : pm_H} {x0 : Nat} : pm_call 105 [.ref x0] w = pm_ev 105 0 [some (.ref x0)] [] w := rfl
theorem pe106 {w : pm_H} {x0 : Int32} {x1 : Int32} {x2 : Int32} {x3 : Int32} : pm_call 106 [.int x0, .int x1, .int x2, .int x3] w = pm_ev 106 0 [some (.int x0), some (.int x1), some (.int x2), some (.int x3)] [] w := rfl
theorem pe107 {w : pm_H} {x0 : Nat} : pm_call 107 [.ref x0] w = pm_ev 107 0 [some (.ref x0)] [] w := rfl
theorem pe108 {w : pm_H} {x0 : Int32} {x1 : Int32} {x2 : Int32} {x3 : Int32} {x4 : Int32} : pm_call 108 [.int x0, .int x1, .int x2, .int x3, .int x4] w = pm_ev 108 0 [some (.int x0), some (.int x1), some (.int x2), some (.int x3), some (.int x4)] [] w := rfl
theorem pe109 {w : pm_H} {x0 : Nat} : pm_call 109 [.ref x0] w = pm_ev 109 0 [some (.ref x0)] [] w := rfl
theorem pe110 {w : pm_H} {x0 : Nat} {x1 : Int32} : pm_call 110 [.ref x0, .int x1] w = pm_ev 110 0 [some (.ref x0), some (.int x1), none, none] [] w := rfl
theorem pe111 {w : pm_H} {x0 : Nat} : pm_call 111 [.ref x0] w = pm_ev 111 0 [some (.ref x0), none, none] [] w := rfl
theorem pe112 {w : pm_H} {x0 : Nat} {x1 : Int32} {x2 : Int32} : pm_call 112 [.ref x0, .int x1, .int x2] w = pm_ev 112 0 [some (.ref x0), some (.int x1), some (.int x2)] [] w := rfl
theorem pe113 {w : pm_H} {x0 : Nat} : pm_call 113 [.ref x0] w = pm_ev 113 0 [some (.ref x0)] [] w := rfl
theorem pe114 {w : pm_H} {x0 : Nat} {x1 : Int32} : pm_call 114 [.ref x0, .int x1] w = pm_ev 114 0 [some (.ref x0), some (.int x1), none] [] w := rfl
theorem pe115 {w : pm_H} {x0 : Nat} {x1 : Int32} : pm_call 115 [.ref x0, .int x1] w = pm_ev 115 0 [some (.ref x0), some (.int x1), none, none, none, none] [] w := rfl
theorem pe116 {w : pm_H} {x0 : Nat} {x1 : Int32} : pm_call 116 [.ref x0, .int x1] w = pm_ev 116 0 [some (.ref x0), some (.int x1), none] [] w := rfl
theorem pe117 {w : pm_H} {x0 : Nat} : pm_call 117 [.ref x0] w = pm_ev 117 0 [some (.ref x0)] [] w := rfl
theorem pe118 {w : pm_H} {x0 : Nat} : pm_call 118 [.ref x0] w = pm_ev 118 0 [some (.ref x0)] [] w := rfl
theorem pe119 {w : pm_H} {x0 : Nat} {x1 : Int32} : pm_call 119 [.ref x0, .int x1] w = pm_ev 119 0 [some (.ref x0), some (.int x1)] [] w := rfl
theorem pe120 {w : pm_H} {x0 : Nat} {x1 : Int32} {x2 : Int32} : pm_call 120 [.ref x0, .int x1, .int x2] w = pm_ev 120 0 [some (.ref x0), some (.int x1), some (.int x2)] [] w := rfl
theorem pe121 {w : pm_H} {x0 : Int32} : pm_call 121 [.int x0] w = pm_ev 121 0 [some (.int x0)] [] w := rfl
theorem pe122 {w : pm_H} {x0 : Nat} {x1 : Int32} : pm_call 122 [.ref x0, .int x1] w = pm_ev 122 0 [some (.ref x0), some (.int x1)] [] w := rfl
theorem pe123 {w : pm_H} {x0 : Nat} {x1 : Int32} {x2 : Int32} : pm_call 123 [.ref x0, .int x1, .int x2] w = pm_ev 123 0 [some (.ref x0), some (.int x1), some (.int x2), none, none] [] w := rfl
theorem pe124 {w : pm_H} {x0 : Nat} {x1 : Int32} {x2 : Int32} : pm_call 124 [.ref x0, .int x1, .int x2] w = pm_ev 124 0 [some (.ref x0), some (.int x1), some (.int x2)] [] w := rfl
theorem pe125 {w : pm_H} {x0 : Int32} : pm_call 125 [.int x0] w = pm_ev 125 0 [some (.int x0)] [] w := rfl
theorem pe126 {w : pm_H} {x0 : Nat} : pm_call 126 [.ref x0] w = pm_ev 126 0 [some (.ref x0)] [] w := rfl
theorem pe127 {w : pm_H} {x0 : Nat} {x1 : Int32} {x2 : Int32} : pm_call 127 [.ref x0, .int x1, .int x2] w = pm_ev 127 0 [some (.ref x0), some (.int x1), some (.int x2)] [] w := rfl
theorem pe128 {w : pm_H} {x0 : Nat} {x1 : Int32} {x2 : Int32} : pm_call 128 [.ref x0, .int x1, .int x2] w = pm_ev 128 0 [some (.ref x0), some (.int x1), some (.int x2)] [] w := rfl
theorem pe129 {w : pm_H} {x0 : Nat} {x1 : Int32} : pm_call 129 [.ref x0, .int x1] w = pm_ev 129 0 [some (.ref x0), some (.int x1)] [] w := rfl
theorem pe130 {w : pm_H} {x0 : Nat} {x1 : Int32} : pm_call 130 [.ref x0, .int x1] w = pm_ev 130 0 [some (.ref x0), some (.int x1)] [] w := rfl
theorem pe131 {w : pm_H} {x0 : Nat} {x1 : Int32} {x2 : Int32} : pm_call 131 [.ref x0, .int x1, .int x2] w = pm_ev 131 0 [some (.ref x0), some (.int x1), some (.int x2)] [] w := rfl
theorem pe132 {w : pm_H} {x0 : Nat} {x1 : Int32} {x2 : Int32} : pm_call 132 [.ref x0, .int x1, .int x2] w = pm_ev 132 0 [some (.ref x0), some (.int x1), some (.int x2)] [] w := rfl
theorem pe133 {w : pm_H} {x0 : Int32} {x1 : Int32} : pm_call 133 [.int x0, .int x1] w = pm_ev 133 0 [some (.int x0), some (.int x1)] [] w := rfl
theorem pe134 {w : pm_H} {x0 : Nat} {x1 : Int32} {x2 : Int32} : pm_call 134 [.ref x0, .int x1, .int x2] w = pm_ev 134 0 [some (.ref x0), some (.int x1), some (.int x2), none, none, none] [] w := rfl
theorem pe135 {w : pm_H} {x0 : Nat} {x1 : Int32} {x2 : Int32} {x3 : Int32} {x4 : Int32} : pm_call 135 [.ref x0, .int x1, .int x2, .int x3, .int x4] w = pm_ev 135 0 [some (.ref x0), some (.int x1), some (.int x2), some (.int x3), some (.int x4)] [] w := rfl
theorem pe136 {w : pm_H} {x0 : Nat} {x1 : Int32} {x2 : Int32} {x3 : Int32} : pm_call 136 [.ref x0, .int x1, .int x2, .int x3] w = pm_ev 136 0 [some (.ref x0), some (.int x1), some (.int x2), some (.int x3)] [] w := rfl
theorem pe137 {w : pm_H} {x0 : Nat} {x1 : Int32} {x2 : Int32} {x3 : Int32} : pm_call 137 [.ref x0, .int x1, .int x2, .int x3] w = pm_ev 137 0 [some (.ref x0), some (.int x1), some (.int x2), some (.int x3), none, none] [] w := rfl
theorem pe138 {w : pm_H} {x0 : Nat} {x1 : Int32} {x2 : Int32} {x3 : Int32} : pm_call 138 [.ref x0, .int x1, .int x2, .int x3] w = pm_ev 138 0 [some (.ref x0), some (.int x1), some (.int x2), some (.int x3), none, none, none] [] w := rfl
theorem pe139 {w : pm_H} {x0 : Nat} {x1 : Int32} {x2 : Int32} : pm_call 139 [.ref x0, .int x1, .int x2] w = pm_ev 139 0 [some (.ref x0), some (.int x1), some (.int x2), none, none] [] w := rfl
theorem pe140 {w : pm_H} {x0 : Nat} {x1 : Int32} {x2 : Int32} : pm_call 140 [.ref x0, .int x1, .int x2] w = pm_ev 140 0 [some (.ref x0), some (.int x1), some (.int x2)] [] w := rfl
theorem pe141 {w : pm_H} {x0 : Nat} {x1 : Int32} {x2 : Int32} : pm_call 141 [.ref x0, .int x1, .int x2] w = pm_ev 141 0 [some (.ref x0), some (.int x1), some (.int x2), none, none] [] w := rfl
theorem pe142 {w : pm_H} {x0 : Nat} {x1 : Int32} {x2 : Int32} {x3 : Int32} : pm_call 142 [.ref x0, .int x1, .int x2, .int x3] w = pm_ev 142 0 [some (.ref x0), some (.int x1), some (.int x2), some (.int x3), none] [] w := rfl
theorem pe143 {w : pm_H} {x0 : Nat} {x1 : Int32} {x2 : Int32} {x3 : Int32} : pm_call 143 [.ref x0, .int x1, .int x2, .int x3] w = pm_ev 143 0 [some (.ref x0), some (.int x1), some (.int x2), some (.int x3)] [] w := rfl
theorem pe144 {w : pm_H} {x0 : Nat} {x1 : Int32} {x2 : Int32} {x3 : Int32} : pm_call 144 [.ref x0, .int x1, .int x2, .int x3] w = pm_ev 144 0 [some (.ref x0), some (.int x1), some (.int x2), some (.int x3), none, none] [] w := rfl
theorem pe145 {w : pm_H} {x0 : Nat} {x1 : Int32} {x2 : Int32} : pm_call 145 [.ref x0, .int x1, .int x2] w = pm_ev 145 0 [some (.ref x0), some (.int x1), some (.int x2), none, none, none, none] [] w := rfl
theorem pe146 {w : pm_H} {x0 : Nat} {x1 : Int32} : pm_call 146 [.ref x0, .int x1] w = pm_ev 146 0 [some (.ref x0), some (.int x1)] [] w := rfl
theorem pe147 {w : pm_H} {x0 : Int64} {x1 : Int64} {x2 : Int32} {x3 : Int32} : pm_call 147 [.long x0, .long x1, .int x2, .int x3] w = pm_ev 147 0 [some (.long x0), none, some (.long x1), none, some (.int x2), some (.int x3), none, none, none, none] [] w := rfl
theorem pe148 {w : pm_H} {x0 : Nat} {x1 : Int32} {x2 : Int32} {x3 : Int32} : pm_call 148 [.ref x0, .int x1, .int x2, .int x3] w = pm_ev 148 0 [some (.ref x0), some (.int x1), some (.int x2), some (.int x3)] [] w := rfl
theorem pe149 {w : pm_H} {x0 : Nat} {x1 : Int32} {x2 : Int32} {x3 : Int32} : pm_call 149 [.ref x0, .int x1, .int x2, .int x3] w = pm_ev 149 0 [some (.ref x0), some (.int x1), some (.int x2), some (.int x3)] [] w := rfl
theorem pe150 {w : pm_H} {x0 : Nat} {x1 : Int32} {x2 : Int32} {x3 : Int32} : pm_call 150 [.ref x0, .int x1, .int x2, .int x3] w = pm_ev 150 0 [some (.ref x0), some (.int x1), some (.int x2), some (.int x3), none, none, none, none, none] [] w := rfl
theorem pe151 {w : pm_H} {x0 : Int32} {x1 : Int32} : pm_call 151 [.int x0, .int x1] w = pm_ev 151 0 [some (.int x0), some (.int x1)] [] w := rfl
theorem pe152 {w : pm_H} {x0 : Nat} {x1 : Int32} {x2 : Int32} {x3 : Int32} {x4 : Int32} : pm_call 152 [.ref x0, .int x1, .int x2, .int x3, .int x4] w = pm_ev 152 0 [some (.ref x0), some (.int x1), some (.int x2), some (.int x3), some (.int x4)] [] w := rfl
theorem pe153 {w : pm_H} {x0 : Nat} {x1 : Int32} {x2 : Int32} {x3 : Int32} {x4 : Int32} : pm_call 153 [.ref x0, .int x1, .int x2, .int x3, .int x4] w = pm_ev 153 0 [some (.ref x0), some (.int x1), some (.int x2), some (.int x3), some (.int x4), none, none] [] w := rfl
theorem pe154 {w : pm_H} {x0 : Nat} {x1 : Int32} {x2 : Int32} {x3 : Int32} {x4 : Int32} : pm_call 154 [.ref x0, .int x1, .int x2, .int x3, .int x4] w = pm_ev 154 0 [some (.ref x0), some (.int x1), some (.int x2), some (.int x3), some (.int x4), none] [] w := rfl
theorem pe155 {w : pm_H} {x0 : Nat} {x1 : Int32} {x2 : Int32} {x3 : Int32} : pm_call 155 [.ref x0, .int x1, .int x2, .int x3] w = pm_ev 155 0 [some (.ref x0), some (.int x1), some (.int x2), some (.int x3), none] [] w := rfl
theorem pe156 {w : pm_H} {x0 : Nat} {x1 : Int32} : pm_call 156 [.ref x0, .int x1] w = pm_ev 156 0 [some (.ref x0), some (.int x1)] [] w := rfl
theorem pe157 {w : pm_H} {x0 : Nat} {x1 : Int32} {x2 : Int32} {x3 : Int32} : pm_call 157 [.ref x0, .int x1, .int x2, .int x3] w = pm_ev 157 0 [some (.ref x0), some (.int x1), some (.int x2), some (.int x3), none] [] w := rfl
theorem pe158 {w : pm_H} {x0 : Nat} {x1 : Int32} {x2 : Int32} {x3 : Int32} : pm_call 158 [.ref x0, .int x1, .int x2, .int x3] w = pm_ev 158 0 [some (.ref x0), some (.int x1), some (.int x2), some (.int x3)] [] w := rfl
theorem pe159 {w : pm_H} {x0 : Nat} : pm_call 159 [.ref x0] w = pm_ev 159 0 [some (.ref x0), none] [] w := rfl
theorem pe160 {w : pm_H} {x0 : Nat} {x1 : Int32} {x2 : Int32} {x3 : Int32} {x4 : Int32} : pm_call 160 [.ref x0, .int x1, .int x2, .int x3, .int x4] w = pm_ev 160 0 [some (.ref x0), some (.int x1), some (.int x2), some (.int x3), some (.int x4), none] [] w := rfl
theorem pe161 {w : pm_H} {x0 : Nat} {x1 : Int32} {x2 : Int32} : pm_call 161 [.ref x0, .int x1, .int x2] w = pm_ev 161 0 [some (.ref x0), some (.int x1), some (.int x2)] [] w := rfl
theorem pe162 {w : pm_H} {x0 : Nat} {x1 : Int32} {x2 : Int32} : pm_call 162 [.ref x0, .int x1, .int x2] w = pm_ev 162 0 [some (.ref x0), some (.int x1), some (.int x2), none] [] w := rfl
theorem pe163 {w : pm_H} {x0 : Nat} {x1 : Int32} {x2 : Int32} : pm_call 163 [.ref x0, .int x1, .int x2] w = pm_ev 163 0 [some (.ref x0), some (.int x1), some (.int x2)] [] w := rfl
theorem pe164 {w : pm_H} {x0 : Nat} : pm_call 164 [.ref x0] w = pm_ev 164 0 [some (.ref x0), none] [] w := rfl
theorem pe165 {w : pm_H} {x0 : Int32} {x1 : Int32} : pm_call 165 [.int x0, .int x1] w = pm_ev 165 0 [some (.int x0), some (.int x1)] [] w := rfl
theorem pe166 {w : pm_H} {x0 : Int32} {x1 : Int32} : pm_call 166 [.int x0, .int x1] w = pm_ev 166 0 [some (.int x0), some (.int x1)] [] w := rfl
theorem pe167 {w : pm_H} {x0 : Int64} {x1 : Int64} : pm_call 167 [.long x0, .long x1] w = pm_ev 167 0 [some (.long x0), none, some (.long x1), none, none, none] [] w := rfl
