/-! THE START -/
def pf_L : List Cond := flatC (Jvm.Cond.and given_1 narrow_1)
def pf_tm (i : Nat) : Term := Term.string RX2 (pt_sx.getD i (0, "")).1
theorem pf_a0 : Cond.exactly (pf_tm 0) "java/lang/String" ∈ pf_L := List.mem_of_getElem? (i := 18) (by decide +kernel)
theorem pf_b0 : Cond.eq (.field (pf_tm 0) "java/lang/String" "coder" "B") (.int 0) ∈ pf_L := List.mem_of_getElem? (i := 19) (by decide +kernel)
theorem pf_c0 : Cond.arrayOf (.field (pf_tm 0) "java/lang/String" "value" "[B") .byte ∈ pf_L := List.mem_of_getElem? (i := 20) (by decide +kernel)
theorem pf_d0 : Cond.eq (.length (.field (pf_tm 0) "java/lang/String" "value" "[B")) (.int (Int32.ofNat (pt_sn.getD 0 0))) ∈ pf_L := List.mem_of_getElem? (i := 21) (by decide +kernel)
theorem pf_e0_0 : Cond.eq (.elem (.field (pf_tm 0) "java/lang/String" "value" "[B") (.int (Int32.ofNat 0))) (.int ((pt_sb.getD 0 []).getD 0 0)) ∈ pf_L := List.mem_of_getElem? (i := 22) (by decide +kernel)
theorem pf_e0_1 : Cond.eq (.elem (.field (pf_tm 0) "java/lang/String" "value" "[B") (.int (Int32.ofNat 1))) (.int ((pt_sb.getD 0 []).getD 1 0)) ∈ pf_L := List.mem_of_getElem? (i := 23) (by decide +kernel)
theorem pf_e0_2 : Cond.eq (.elem (.field (pf_tm 0) "java/lang/String" "value" "[B") (.int (Int32.ofNat 2))) (.int ((pt_sb.getD 0 []).getD 2 0)) ∈ pf_L := List.mem_of_getElem? (i := 24) (by decide +kernel)
theorem pf_e0_3 : Cond.eq (.elem (.field (pf_tm 0) "java/lang/String" "value" "[B") (.int (Int32.ofNat 3))) (.int ((pt_sb.getD 0 []).getD 3 0)) ∈ pf_L := List.mem_of_getElem? (i := 25) (by decide +kernel)
theorem pf_e0_4 : Cond.eq (.elem (.field (pf_tm 0) "java/lang/String" "value" "[B") (.int (Int32.ofNat 4))) (.int ((pt_sb.getD 0 []).getD 4 0)) ∈ pf_L := List.mem_of_getElem? (i := 26) (by decide +kernel)
theorem pf_e0_5 : Cond.eq (.elem (.field (pf_tm 0) "java/lang/String" "value" "[B") (.int (Int32.ofNat 5))) (.int ((pt_sb.getD 0 []).getD 5 0)) ∈ pf_L := List.mem_of_getElem? (i := 27) (by decide +kernel)
theorem pf_a1 : Cond.exactly (pf_tm 1) "java/lang/String" ∈ pf_L := List.mem_of_getElem? (i := 28) (by decide +kernel)
theorem pf_b1 : Cond.eq (.field (pf_tm 1) "java/lang/String" "coder" "B") (.int 0) ∈ pf_L := List.mem_of_getElem? (i := 29) (by decide +kernel)
theorem pf_c1 : Cond.arrayOf (.field (pf_tm 1) "java/lang/String" "value" "[B") .byte ∈ pf_L := List.mem_of_getElem? (i := 30) (by decide +kernel)
theorem pf_d1 : Cond.eq (.length (.field (pf_tm 1) "java/lang/String" "value" "[B")) (.int (Int32.ofNat (pt_sn.getD 1 0))) ∈ pf_L := List.mem_of_getElem? (i := 31) (by decide +kernel)
theorem pf_e1_0 : Cond.eq (.elem (.field (pf_tm 1) "java/lang/String" "value" "[B") (.int (Int32.ofNat 0))) (.int ((pt_sb.getD 1 []).getD 0 0)) ∈ pf_L := List.mem_of_getElem? (i := 32) (by decide +kernel)
theorem pf_e1_1 : Cond.eq (.elem (.field (pf_tm 1) "java/lang/String" "value" "[B") (.int (Int32.ofNat 1))) (.int ((pt_sb.getD 1 []).getD 1 0)) ∈ pf_L := List.mem_of_getElem? (i := 33) (by decide +kernel)
theorem pf_e1_2 : Cond.eq (.elem (.field (pf_tm 1) "java/lang/String" "value" "[B") (.int (Int32.ofNat 2))) (.int ((pt_sb.getD 1 []).getD 2 0)) ∈ pf_L := List.mem_of_getElem? (i := 34) (by decide +kernel)
theorem pf_e1_3 : Cond.eq (.elem (.field (pf_tm 1) "java/lang/String" "value" "[B") (.int (Int32.ofNat 3))) (.int ((pt_sb.getD 1 []).getD 3 0)) ∈ pf_L := List.mem_of_getElem? (i := 35) (by decide +kernel)
theorem pf_e1_4 : Cond.eq (.elem (.field (pf_tm 1) "java/lang/String" "value" "[B") (.int (Int32.ofNat 4))) (.int ((pt_sb.getD 1 []).getD 4 0)) ∈ pf_L := List.mem_of_getElem? (i := 36) (by decide +kernel)
theorem pf_e1_5 : Cond.eq (.elem (.field (pf_tm 1) "java/lang/String" "value" "[B") (.int (Int32.ofNat 5))) (.int ((pt_sb.getD 1 []).getD 5 0)) ∈ pf_L := List.mem_of_getElem? (i := 37) (by decide +kernel)
theorem pf_e1_6 : Cond.eq (.elem (.field (pf_tm 1) "java/lang/String" "value" "[B") (.int (Int32.ofNat 6))) (.int ((pt_sb.getD 1 []).getD 6 0)) ∈ pf_L := List.mem_of_getElem? (i := 38) (by decide +kernel)
theorem pf_a2 : Cond.exactly (pf_tm 2) "java/lang/String" ∈ pf_L := List.mem_of_getElem? (i := 40) (by decide +kernel)
theorem pf_b2 : Cond.eq (.field (pf_tm 2) "java/lang/String" "coder" "B") (.int 0) ∈ pf_L := List.mem_of_getElem? (i := 41) (by decide +kernel)
theorem pf_c2 : Cond.arrayOf (.field (pf_tm 2) "java/lang/String" "value" "[B") .byte ∈ pf_L := List.mem_of_getElem? (i := 42) (by decide +kernel)
theorem pf_d2 : Cond.eq (.length (.field (pf_tm 2) "java/lang/String" "value" "[B")) (.int (Int32.ofNat (pt_sn.getD 2 0))) ∈ pf_L := List.mem_of_getElem? (i := 43) (by decide +kernel)
theorem pf_e2_0 : Cond.eq (.elem (.field (pf_tm 2) "java/lang/String" "value" "[B") (.int (Int32.ofNat 0))) (.int ((pt_sb.getD 2 []).getD 0 0)) ∈ pf_L := List.mem_of_getElem? (i := 44) (by decide +kernel)
theorem pf_e2_1 : Cond.eq (.elem (.field (pf_tm 2) "java/lang/String" "value" "[B") (.int (Int32.ofNat 1))) (.int ((pt_sb.getD 2 []).getD 1 0)) ∈ pf_L := List.mem_of_getElem? (i := 45) (by decide +kernel)
theorem pf_e2_2 : Cond.eq (.elem (.field (pf_tm 2) "java/lang/String" "value" "[B") (.int (Int32.ofNat 2))) (.int ((pt_sb.getD 2 []).getD 2 0)) ∈ pf_L := List.mem_of_getElem? (i := 46) (by decide +kernel)
theorem pf_e2_3 : Cond.eq (.elem (.field (pf_tm 2) "java/lang/String" "value" "[B") (.int (Int32.ofNat 3))) (.int ((pt_sb.getD 2 []).getD 3 0)) ∈ pf_L := List.mem_of_getElem? (i := 47) (by decide +kernel)
theorem pf_a3 : Cond.exactly (pf_tm 3) "java/lang/String" ∈ pf_L := List.mem_of_getElem? (i := 50) (by decide +kernel)
theorem pf_b3 : Cond.eq (.field (pf_tm 3) "java/lang/String" "coder" "B") (.int 0) ∈ pf_L := List.mem_of_getElem? (i := 51) (by decide +kernel)
theorem pf_c3 : Cond.arrayOf (.field (pf_tm 3) "java/lang/String" "value" "[B") .byte ∈ pf_L := List.mem_of_getElem? (i := 52) (by decide +kernel)
theorem pf_d3 : Cond.eq (.length (.field (pf_tm 3) "java/lang/String" "value" "[B")) (.int (Int32.ofNat (pt_sn.getD 3 0))) ∈ pf_L := List.mem_of_getElem? (i := 53) (by decide +kernel)
theorem pf_e3_0 : Cond.eq (.elem (.field (pf_tm 3) "java/lang/String" "value" "[B") (.int (Int32.ofNat 0))) (.int ((pt_sb.getD 3 []).getD 0 0)) ∈ pf_L := List.mem_of_getElem? (i := 54) (by decide +kernel)
theorem pf_e3_1 : Cond.eq (.elem (.field (pf_tm 3) "java/lang/String" "value" "[B") (.int (Int32.ofNat 1))) (.int ((pt_sb.getD 3 []).getD 1 0)) ∈ pf_L := List.mem_of_getElem? (i := 55) (by decide +kernel)
theorem pf_e3_2 : Cond.eq (.elem (.field (pf_tm 3) "java/lang/String" "value" "[B") (.int (Int32.ofNat 2))) (.int ((pt_sb.getD 3 []).getD 2 0)) ∈ pf_L := List.mem_of_getElem? (i := 56) (by decide +kernel)
theorem pf_e3_3 : Cond.eq (.elem (.field (pf_tm 3) "java/lang/String" "value" "[B") (.int (Int32.ofNat 3))) (.int ((pt_sb.getD 3 []).getD 3 0)) ∈ pf_L := List.mem_of_getElem? (i := 57) (by decide +kernel)
theorem pf_e3_4 : Cond.eq (.elem (.field (pf_tm 3) "java/lang/String" "value" "[B") (.int (Int32.ofNat 4))) (.int ((pt_sb.getD 3 []).getD 4 0)) ∈ pf_L := List.mem_of_getElem? (i := 58) (by decide +kernel)
theorem pf_e3_5 : Cond.eq (.elem (.field (pf_tm 3) "java/lang/String" "value" "[B") (.int (Int32.ofNat 5))) (.int ((pt_sb.getD 3 []).getD 5 0)) ∈ pf_L := List.mem_of_getElem? (i := 59) (by decide +kernel)
theorem pf_a4 : Cond.exactly (pf_tm 4) "java/lang/String" ∈ pf_L := List.mem_of_getElem? (i := 63) (by decide +kernel)
theorem pf_b4 : Cond.eq (.field (pf_tm 4) "java/lang/String" "coder" "B") (.int 0) ∈ pf_L := List.mem_of_getElem? (i := 64) (by decide +kernel)
theorem pf_c4 : Cond.arrayOf (.field (pf_tm 4) "java/lang/String" "value" "[B") .byte ∈ pf_L := List.mem_of_getElem? (i := 65) (by decide +kernel)
theorem pf_d4 : Cond.eq (.length (.field (pf_tm 4) "java/lang/String" "value" "[B")) (.int (Int32.ofNat (pt_sn.getD 4 0))) ∈ pf_L := List.mem_of_getElem? (i := 66) (by decide +kernel)
theorem pf_e4_0 : Cond.eq (.elem (.field (pf_tm 4) "java/lang/String" "value" "[B") (.int (Int32.ofNat 0))) (.int ((pt_sb.getD 4 []).getD 0 0)) ∈ pf_L := List.mem_of_getElem? (i := 67) (by decide +kernel)
theorem pf_e4_1 : Cond.eq (.elem (.field (pf_tm 4) "java/lang/String" "value" "[B") (.int (Int32.ofNat 1))) (.int ((pt_sb.getD 4 []).getD 1 0)) ∈ pf_L := List.mem_of_getElem? (i := 68) (by decide +kernel)
theorem pf_e4_2 : Cond.eq (.elem (.field (pf_tm 4) "java/lang/String" "value" "[B") (.int (Int32.ofNat 2))) (.int ((pt_sb.getD 4 []).getD 2 0)) ∈ pf_L := List.mem_of_getElem? (i := 69) (by decide +kernel)
theorem pf_e4_3 : Cond.eq (.elem (.field (pf_tm 4) "java/lang/String" "value" "[B") (.int (Int32.ofNat 3))) (.int ((pt_sb.getD 4 []).getD 3 0)) ∈ pf_L := List.mem_of_getElem? (i := 70) (by decide +kernel)
theorem pf_e4_4 : Cond.eq (.elem (.field (pf_tm 4) "java/lang/String" "value" "[B") (.int (Int32.ofNat 4))) (.int ((pt_sb.getD 4 []).getD 4 0)) ∈ pf_L := List.mem_of_getElem? (i := 71) (by decide +kernel)
theorem pf_a5 : Cond.exactly (pf_tm 5) "java/lang/String" ∈ pf_L := List.mem_of_getElem? (i := 76) (by decide +kernel)
theorem pf_b5 : Cond.eq (.field (pf_tm 5) "java/lang/String" "coder" "B") (.int 0) ∈ pf_L := List.mem_of_getElem? (i := 77) (by decide +kernel)
theorem pf_c5 : Cond.arrayOf (.field (pf_tm 5) "java/lang/String" "value" "[B") .byte ∈ pf_L := List.mem_of_getElem? (i := 78) (by decide +kernel)
theorem pf_d5 : Cond.eq (.length (.field (pf_tm 5) "java/lang/String" "value" "[B")) (.int (Int32.ofNat (pt_sn.getD 5 0))) ∈ pf_L := List.mem_of_getElem? (i := 79) (by decide +kernel)
theorem pf_e5_0 : Cond.eq (.elem (.field (pf_tm 5) "java/lang/String" "value" "[B") (.int (Int32.ofNat 0))) (.int ((pt_sb.getD 5 []).getD 0 0)) ∈ pf_L := List.mem_of_getElem? (i := 80) (by decide +kernel)
theorem pf_e5_1 : Cond.eq (.elem (.field (pf_tm 5) "java/lang/String" "value" "[B") (.int (Int32.ofNat 1))) (.int ((pt_sb.getD 5 []).getD 1 0)) ∈ pf_L := List.mem_of_getElem? (i := 81) (by decide +kernel)
theorem pf_e5_2 : Cond.eq (.elem (.field (pf_tm 5) "java/lang/String" "value" "[B") (.int (Int32.ofNat 2))) (.int ((pt_sb.getD 5 []).getD 2 0)) ∈ pf_L := List.mem_of_getElem? (i := 82) (by decide +kernel)
theorem pf_e5_3 : Cond.eq (.elem (.field (pf_tm 5) "java/lang/String" "value" "[B") (.int (Int32.ofNat 3))) (.int ((pt_sb.getD 5 []).getD 3 0)) ∈ pf_L := List.mem_of_getElem? (i := 83) (by decide +kernel)
theorem pf_e5_4 : Cond.eq (.elem (.field (pf_tm 5) "java/lang/String" "value" "[B") (.int (Int32.ofNat 4))) (.int ((pt_sb.getD 5 []).getD 4 0)) ∈ pf_L := List.mem_of_getElem? (i := 84) (by decide +kernel)
theorem pf_a6 : Cond.exactly (pf_tm 6) "java/lang/String" ∈ pf_L := List.mem_of_getElem? (i := 90) (by decide +kernel)
theorem pf_b6 : Cond.eq (.field (pf_tm 6) "java/lang/String" "coder" "B") (.int 0) ∈ pf_L := List.mem_of_getElem? (i := 91) (by decide +kernel)
theorem pf_c6 : Cond.arrayOf (.field (pf_tm 6) "java/lang/String" "value" "[B") .byte ∈ pf_L := List.mem_of_getElem? (i := 92) (by decide +kernel)
theorem pf_d6 : Cond.eq (.length (.field (pf_tm 6) "java/lang/String" "value" "[B")) (.int (Int32.ofNat (pt_sn.getD 6 0))) ∈ pf_L := List.mem_of_getElem? (i := 93) (by decide +kernel)
theorem pf_e6_0 : Cond.eq (.elem (.field (pf_tm 6) "java/lang/String" "value" "[B") (.int (Int32.ofNat 0))) (.int ((pt_sb.getD 6 []).getD 0 0)) ∈ pf_L := List.mem_of_getElem? (i := 94) (by decide +kernel)
theorem pf_e6_1 : Cond.eq (.elem (.field (pf_tm 6) "java/lang/String" "value" "[B") (.int (Int32.ofNat 1))) (.int ((pt_sb.getD 6 []).getD 1 0)) ∈ pf_L := List.mem_of_getElem? (i := 95) (by decide +kernel)
theorem pf_e6_2 : Cond.eq (.elem (.field (pf_tm 6) "java/lang/String" "value" "[B") (.int (Int32.ofNat 2))) (.int ((pt_sb.getD 6 []).getD 2 0)) ∈ pf_L := List.mem_of_getElem? (i := 96) (by decide +kernel)
theorem pf_a7 : Cond.exactly (pf_tm 7) "java/lang/String" ∈ pf_L := List.mem_of_getElem? (i := 103) (by decide +kernel)
theorem pf_b7 : Cond.eq (.field (pf_tm 7) "java/lang/String" "coder" "B") (.int 0) ∈ pf_L := List.mem_of_getElem? (i := 104) (by decide +kernel)
theorem pf_c7 : Cond.arrayOf (.field (pf_tm 7) "java/lang/String" "value" "[B") .byte ∈ pf_L := List.mem_of_getElem? (i := 105) (by decide +kernel)
theorem pf_d7 : Cond.eq (.length (.field (pf_tm 7) "java/lang/String" "value" "[B")) (.int (Int32.ofNat (pt_sn.getD 7 0))) ∈ pf_L := List.mem_of_getElem? (i := 106) (by decide +kernel)
theorem pf_e7_0 : Cond.eq (.elem (.field (pf_tm 7) "java/lang/String" "value" "[B") (.int (Int32.ofNat 0))) (.int ((pt_sb.getD 7 []).getD 0 0)) ∈ pf_L := List.mem_of_getElem? (i := 107) (by decide +kernel)
theorem pf_e7_1 : Cond.eq (.elem (.field (pf_tm 7) "java/lang/String" "value" "[B") (.int (Int32.ofNat 1))) (.int ((pt_sb.getD 7 []).getD 1 0)) ∈ pf_L := List.mem_of_getElem? (i := 108) (by decide +kernel)
theorem pf_e7_2 : Cond.eq (.elem (.field (pf_tm 7) "java/lang/String" "value" "[B") (.int (Int32.ofNat 2))) (.int ((pt_sb.getD 7 []).getD 2 0)) ∈ pf_L := List.mem_of_getElem? (i := 109) (by decide +kernel)
theorem pf_e7_3 : Cond.eq (.elem (.field (pf_tm 7) "java/lang/String" "value" "[B") (.int (Int32.ofNat 3))) (.int ((pt_sb.getD 7 []).getD 3 0)) ∈ pf_L := List.mem_of_getElem? (i := 110) (by decide +kernel)
theorem pf_e7_4 : Cond.eq (.elem (.field (pf_tm 7) "java/lang/String" "value" "[B") (.int (Int32.ofNat 4))) (.int ((pt_sb.getD 7 []).getD 4 0)) ∈ pf_L := List.mem_of_getElem? (i := 111) (by decide +kernel)
theorem pf_a8 : Cond.exactly (pf_tm 8) "java/lang/String" ∈ pf_L := List.mem_of_getElem? (i := 119) (by decide +kernel)
theorem pf_b8 : Cond.eq (.field (pf_tm 8) "java/lang/String" "coder" "B") (.int 0) ∈ pf_L := List.mem_of_getElem? (i := 120) (by decide +kernel)
theorem pf_c8 : Cond.arrayOf (.field (pf_tm 8) "java/lang/String" "value" "[B") .byte ∈ pf_L := List.mem_of_getElem? (i := 121) (by decide +kernel)
theorem pf_d8 : Cond.eq (.length (.field (pf_tm 8) "java/lang/String" "value" "[B")) (.int (Int32.ofNat (pt_sn.getD 8 0))) ∈ pf_L := List.mem_of_getElem? (i := 122) (by decide +kernel)
theorem pf_e8_0 : Cond.eq (.elem (.field (pf_tm 8) "java/lang/String" "value" "[B") (.int (Int32.ofNat 0))) (.int ((pt_sb.getD 8 []).getD 0 0)) ∈ pf_L := List.mem_of_getElem? (i := 123) (by decide +kernel)
theorem pf_e8_1 : Cond.eq (.elem (.field (pf_tm 8) "java/lang/String" "value" "[B") (.int (Int32.ofNat 1))) (.int ((pt_sb.getD 8 []).getD 1 0)) ∈ pf_L := List.mem_of_getElem? (i := 124) (by decide +kernel)
theorem pf_e8_2 : Cond.eq (.elem (.field (pf_tm 8) "java/lang/String" "value" "[B") (.int (Int32.ofNat 2))) (.int ((pt_sb.getD 8 []).getD 2 0)) ∈ pf_L := List.mem_of_getElem? (i := 125) (by decide +kernel)
theorem pf_e8_3 : Cond.eq (.elem (.field (pf_tm 8) "java/lang/String" "value" "[B") (.int (Int32.ofNat 3))) (.int ((pt_sb.getD 8 []).getD 3 0)) ∈ pf_L := List.mem_of_getElem? (i := 126) (by decide +kernel)
theorem pf_e8_4 : Cond.eq (.elem (.field (pf_tm 8) "java/lang/String" "value" "[B") (.int (Int32.ofNat 4))) (.int ((pt_sb.getD 8 []).getD 4 0)) ∈ pf_L := List.mem_of_getElem? (i := 127) (by decide +kernel)
theorem pf_e8_5 : Cond.eq (.elem (.field (pf_tm 8) "java/lang/String" "value" "[B") (.int (Int32.ofNat 5))) (.int ((pt_sb.getD 8 []).getD 5 0)) ∈ pf_L := List.mem_of_getElem? (i := 128) (by decide +kernel)
theorem pf_a9 : Cond.exactly (pf_tm 9) "java/lang/String" ∈ pf_L := List.mem_of_getElem? (i := 137) (by decide +kernel)
theorem pf_b9 : Cond.eq (.field (pf_tm 9) "java/lang/String" "coder" "B") (.int 0) ∈ pf_L := List.mem_of_getElem? (i := 138) (by decide +kernel)
theorem pf_c9 : Cond.arrayOf (.field (pf_tm 9) "java/lang/String" "value" "[B") .byte ∈ pf_L := List.mem_of_getElem? (i := 139) (by decide +kernel)
theorem pf_d9 : Cond.eq (.length (.field (pf_tm 9) "java/lang/String" "value" "[B")) (.int (Int32.ofNat (pt_sn.getD 9 0))) ∈ pf_L := List.mem_of_getElem? (i := 140) (by decide +kernel)
theorem pf_e9_0 : Cond.eq (.elem (.field (pf_tm 9) "java/lang/String" "value" "[B") (.int (Int32.ofNat 0))) (.int ((pt_sb.getD 9 []).getD 0 0)) ∈ pf_L := List.mem_of_getElem? (i := 141) (by decide +kernel)
theorem pf_e9_1 : Cond.eq (.elem (.field (pf_tm 9) "java/lang/String" "value" "[B") (.int (Int32.ofNat 1))) (.int ((pt_sb.getD 9 []).getD 1 0)) ∈ pf_L := List.mem_of_getElem? (i := 142) (by decide +kernel)
theorem pf_e9_2 : Cond.eq (.elem (.field (pf_tm 9) "java/lang/String" "value" "[B") (.int (Int32.ofNat 2))) (.int ((pt_sb.getD 9 []).getD 2 0)) ∈ pf_L := List.mem_of_getElem? (i := 143) (by decide +kernel)
theorem pf_e9_3 : Cond.eq (.elem (.field (pf_tm 9) "java/lang/String" "value" "[B") (.int (Int32.ofNat 3))) (.int ((pt_sb.getD 9 []).getD 3 0)) ∈ pf_L := List.mem_of_getElem? (i := 144) (by decide +kernel)
theorem pf_a10 : Cond.exactly (pf_tm 10) "java/lang/String" ∈ pf_L := List.mem_of_getElem? (i := 154) (by decide +kernel)
theorem pf_b10 : Cond.eq (.field (pf_tm 10) "java/lang/String" "coder" "B") (.int 0) ∈ pf_L := List.mem_of_getElem? (i := 155) (by decide +kernel)
theorem pf_c10 : Cond.arrayOf (.field (pf_tm 10) "java/lang/String" "value" "[B") .byte ∈ pf_L := List.mem_of_getElem? (i := 156) (by decide +kernel)
theorem pf_d10 : Cond.eq (.length (.field (pf_tm 10) "java/lang/String" "value" "[B")) (.int (Int32.ofNat (pt_sn.getD 10 0))) ∈ pf_L := List.mem_of_getElem? (i := 157) (by decide +kernel)
theorem pf_e10_0 : Cond.eq (.elem (.field (pf_tm 10) "java/lang/String" "value" "[B") (.int (Int32.ofNat 0))) (.int ((pt_sb.getD 10 []).getD 0 0)) ∈ pf_L := List.mem_of_getElem? (i := 158) (by decide +kernel)
theorem pf_e10_1 : Cond.eq (.elem (.field (pf_tm 10) "java/lang/String" "value" "[B") (.int (Int32.ofNat 1))) (.int ((pt_sb.getD 10 []).getD 1 0)) ∈ pf_L := List.mem_of_getElem? (i := 159) (by decide +kernel)
theorem pf_e10_2 : Cond.eq (.elem (.field (pf_tm 10) "java/lang/String" "value" "[B") (.int (Int32.ofNat 2))) (.int ((pt_sb.getD 10 []).getD 2 0)) ∈ pf_L := List.mem_of_getElem? (i := 160) (by decide +kernel)
theorem pf_e10_3 : Cond.eq (.elem (.field (pf_tm 10) "java/lang/String" "value" "[B") (.int (Int32.ofNat 3))) (.int ((pt_sb.getD 10 []).getD 3 0)) ∈ pf_L := List.mem_of_getElem? (i := 161) (by decide +kernel)
theorem pf_n0_1 : Cond.not (Cond.eq (pf_tm 0) (pf_tm 1)) ∈ pf_L := List.mem_of_getElem? (i := 39) (by decide +kernel)
theorem pf_n0_2 : Cond.not (Cond.eq (pf_tm 0) (pf_tm 2)) ∈ pf_L := List.mem_of_getElem? (i := 48) (by decide +kernel)
theorem pf_n0_3 : Cond.not (Cond.eq (pf_tm 0) (pf_tm 3)) ∈ pf_L := List.mem_of_getElem? (i := 60) (by decide +kernel)
theorem pf_n0_4 : Cond.not (Cond.eq (pf_tm 0) (pf_tm 4)) ∈ pf_L := List.mem_of_getElem? (i := 72) (by decide +kernel)
theorem pf_n0_5 : Cond.not (Cond.eq (pf_tm 0) (pf_tm 5)) ∈ pf_L := List.mem_of_getElem? (i := 85) (by decide +kernel)
theorem pf_n0_6 : Cond.not (Cond.eq (pf_tm 0) (pf_tm 6)) ∈ pf_L := List.mem_of_getElem? (i := 97) (by decide +kernel)
theorem pf_n0_7 : Cond.not (Cond.eq (pf_tm 0) (pf_tm 7)) ∈ pf_L := List.mem_of_getElem? (i := 112) (by decide +kernel)
theorem pf_n0_8 : Cond.not (Cond.eq (pf_tm 0) (pf_tm 8)) ∈ pf_L := List.mem_of_getElem? (i := 129) (by decide +kernel)
theorem pf_n0_9 : Cond.not (Cond.eq (pf_tm 0) (pf_tm 9)) ∈ pf_L := List.mem_of_getElem? (i := 145) (by decide +kernel)
theorem pf_n0_10 : Cond.not (Cond.eq (pf_tm 0) (pf_tm 10)) ∈ pf_L := List.mem_of_getElem? (i := 162) (by decide +kernel)
theorem pf_n1_2 : Cond.not (Cond.eq (pf_tm 1) (pf_tm 2)) ∈ pf_L := List.mem_of_getElem? (i := 49) (by decide +kernel)
theorem pf_n1_3 : Cond.not (Cond.eq (pf_tm 1) (pf_tm 3)) ∈ pf_L := List.mem_of_getElem? (i := 61) (by decide +kernel)
theorem pf_n1_4 : Cond.not (Cond.eq (pf_tm 1) (pf_tm 4)) ∈ pf_L := List.mem_of_getElem? (i := 73) (by decide +kernel)
theorem pf_n1_5 : Cond.not (Cond.eq (pf_tm 1) (pf_tm 5)) ∈ pf_L := List.mem_of_getElem? (i := 86) (by decide +kernel)
theorem pf_n1_6 : Cond.not (Cond.eq (pf_tm 1) (pf_tm 6)) ∈ pf_L := List.mem_of_getElem? (i := 98) (by decide +kernel)
theorem pf_n1_7 : Cond.not (Cond.eq (pf_tm 1) (pf_tm 7)) ∈ pf_L := List.mem_of_getElem? (i := 113) (by decide +kernel)
theorem pf_n1_8 : Cond.not (Cond.eq (pf_tm 1) (pf_tm 8)) ∈ pf_L := List.mem_of_getElem? (i := 130) (by decide +kernel)
theorem pf_n1_9 : Cond.not (Cond.eq (pf_tm 1) (pf_tm 9)) ∈ pf_L := List.mem_of_getElem? (i := 146) (by decide +kernel)
theorem pf_n1_10 : Cond.not (Cond.eq (pf_tm 1) (pf_tm 10)) ∈ pf_L := List.mem_of_getElem? (i := 163) (by decide +kernel)
theorem pf_n2_3 : Cond.not (Cond.eq (pf_tm 2) (pf_tm 3)) ∈ pf_L := List.mem_of_getElem? (i := 62) (by decide +kernel)
theorem pf_n2_4 : Cond.not (Cond.eq (pf_tm 2) (pf_tm 4)) ∈ pf_L := List.mem_of_getElem? (i := 74) (by decide +kernel)
theorem pf_n2_5 : Cond.not (Cond.eq (pf_tm 2) (pf_tm 5)) ∈ pf_L := List.mem_of_getElem? (i := 87) (by decide +kernel)
theorem pf_n2_6 : Cond.not (Cond.eq (pf_tm 2) (pf_tm 6)) ∈ pf_L := List.mem_of_getElem? (i := 99) (by decide +kernel)
theorem pf_n2_7 : Cond.not (Cond.eq (pf_tm 2) (pf_tm 7)) ∈ pf_L := List.mem_of_getElem? (i := 114) (by decide +kernel)
theorem pf_n2_8 : Cond.not (Cond.eq (pf_tm 2) (pf_tm 8)) ∈ pf_L := List.mem_of_getElem? (i := 131) (by decide +kernel)
theorem pf_n2_9 : Cond.not (Cond.eq (pf_tm 2) (pf_tm 9)) ∈ pf_L := List.mem_of_getElem? (i := 147) (by decide +kernel)
theorem pf_n2_10 : Cond.not (Cond.eq (pf_tm 2) (pf_tm 10)) ∈ pf_L := List.mem_of_getElem? (i := 164) (by decide +kernel)
theorem pf_n3_4 : Cond.not (Cond.eq (pf_tm 3) (pf_tm 4)) ∈ pf_L := List.mem_of_getElem? (i := 75) (by decide +kernel)
theorem pf_n3_5 : Cond.not (Cond.eq (pf_tm 3) (pf_tm 5)) ∈ pf_L := List.mem_of_getElem? (i := 88) (by decide +kernel)
theorem pf_n3_6 : Cond.not (Cond.eq (pf_tm 3) (pf_tm 6)) ∈ pf_L := List.mem_of_getElem? (i := 100) (by decide +kernel)
theorem pf_n3_7 : Cond.not (Cond.eq (pf_tm 3) (pf_tm 7)) ∈ pf_L := List.mem_of_getElem? (i := 115) (by decide +kernel)
theorem pf_n3_8 : Cond.not (Cond.eq (pf_tm 3) (pf_tm 8)) ∈ pf_L := List.mem_of_getElem? (i := 132) (by decide +kernel)
theorem pf_n3_9 : Cond.not (Cond.eq (pf_tm 3) (pf_tm 9)) ∈ pf_L := List.mem_of_getElem? (i := 148) (by decide +kernel)
theorem pf_n3_10 : Cond.not (Cond.eq (pf_tm 3) (pf_tm 10)) ∈ pf_L := List.mem_of_getElem? (i := 165) (by decide +kernel)
theorem pf_n4_5 : Cond.not (Cond.eq (pf_tm 4) (pf_tm 5)) ∈ pf_L := List.mem_of_getElem? (i := 89) (by decide +kernel)
theorem pf_n4_6 : Cond.not (Cond.eq (pf_tm 4) (pf_tm 6)) ∈ pf_L := List.mem_of_getElem? (i := 101) (by decide +kernel)
theorem pf_n4_7 : Cond.not (Cond.eq (pf_tm 4) (pf_tm 7)) ∈ pf_L := List.mem_of_getElem? (i := 116) (by decide +kernel)
theorem pf_n4_8 : Cond.not (Cond.eq (pf_tm 4) (pf_tm 8)) ∈ pf_L := List.mem_of_getElem? (i := 133) (by decide +kernel)
theorem pf_n4_9 : Cond.not (Cond.eq (pf_tm 4) (pf_tm 9)) ∈ pf_L := List.mem_of_getElem? (i := 149) (by decide +kernel)
theorem pf_n4_10 : Cond.not (Cond.eq (pf_tm 4) (pf_tm 10)) ∈ pf_L := List.mem_of_getElem? (i := 166) (by decide +kernel)
theorem pf_n5_6 : Cond.not (Cond.eq (pf_tm 5) (pf_tm 6)) ∈ pf_L := List.mem_of_getElem? (i := 102) (by decide +kernel)
theorem pf_n5_7 : Cond.not (Cond.eq (pf_tm 5) (pf_tm 7)) ∈ pf_L := List.mem_of_getElem? (i := 117) (by decide +kernel)
theorem pf_n5_8 : Cond.not (Cond.eq (pf_tm 5) (pf_tm 8)) ∈ pf_L := List.mem_of_getElem? (i := 134) (by decide +kernel)
theorem pf_n5_9 : Cond.not (Cond.eq (pf_tm 5) (pf_tm 9)) ∈ pf_L := List.mem_of_getElem? (i := 150) (by decide +kernel)
theorem pf_n5_10 : Cond.not (Cond.eq (pf_tm 5) (pf_tm 10)) ∈ pf_L := List.mem_of_getElem? (i := 167) (by decide +kernel)
theorem pf_n6_7 : Cond.not (Cond.eq (pf_tm 6) (pf_tm 7)) ∈ pf_L := List.mem_of_getElem? (i := 118) (by decide +kernel)
theorem pf_n6_8 : Cond.not (Cond.eq (pf_tm 6) (pf_tm 8)) ∈ pf_L := List.mem_of_getElem? (i := 135) (by decide +kernel)
theorem pf_n6_9 : Cond.not (Cond.eq (pf_tm 6) (pf_tm 9)) ∈ pf_L := List.mem_of_getElem? (i := 151) (by decide +kernel)
theorem pf_n6_10 : Cond.not (Cond.eq (pf_tm 6) (pf_tm 10)) ∈ pf_L := List.mem_of_getElem? (i := 168) (by decide +kernel)
theorem pf_n7_8 : Cond.not (Cond.eq (pf_tm 7) (pf_tm 8)) ∈ pf_L := List.mem_of_getElem? (i := 136) (by decide +kernel)
theorem pf_n7_9 : Cond.not (Cond.eq (pf_tm 7) (pf_tm 9)) ∈ pf_L := List.mem_of_getElem? (i := 152) (by decide +kernel)
theorem pf_n7_10 : Cond.not (Cond.eq (pf_tm 7) (pf_tm 10)) ∈ pf_L := List.mem_of_getElem? (i := 169) (by decide +kernel)
theorem pf_n8_9 : Cond.not (Cond.eq (pf_tm 8) (pf_tm 9)) ∈ pf_L := List.mem_of_getElem? (i := 153) (by decide +kernel)
theorem pf_n8_10 : Cond.not (Cond.eq (pf_tm 8) (pf_tm 10)) ∈ pf_L := List.mem_of_getElem? (i := 170) (by decide +kernel)
theorem pf_n9_10 : Cond.not (Cond.eq (pf_tm 9) (pf_tm 10)) ∈ pf_L := List.mem_of_getElem? (i := 171) (by decide +kernel)
theorem pf_A : ∀ i : Nat, i < 11 → Cond.exactly (pf_tm i) "java/lang/String" ∈ pf_L := by
  intro i hi
  rcases (show i = 0 ∨ i = 1 ∨ i = 2 ∨ i = 3 ∨ i = 4 ∨ i = 5 ∨ i = 6 ∨ i = 7 ∨ i = 8 ∨ i = 9 ∨ i = 10 by omega) with rfl | rfl | rfl | rfl | rfl | rfl | rfl | rfl | rfl | rfl | rfl
  · exact pf_a0
  · exact pf_a1
  · exact pf_a2
  · exact pf_a3
  · exact pf_a4
  · exact pf_a5
  · exact pf_a6
  · exact pf_a7
  · exact pf_a8
  · exact pf_a9
  · exact pf_a10
theorem pf_B : ∀ i : Nat, i < 11 → Cond.eq (.field (pf_tm i) "java/lang/String" "coder" "B") (.int 0) ∈ pf_L := by
  intro i hi
  rcases (show i = 0 ∨ i = 1 ∨ i = 2 ∨ i = 3 ∨ i = 4 ∨ i = 5 ∨ i = 6 ∨ i = 7 ∨ i = 8 ∨ i = 9 ∨ i = 10 by omega) with rfl | rfl | rfl | rfl | rfl | rfl | rfl | rfl | rfl | rfl | rfl
  · exact pf_b0
  · exact pf_b1
  · exact pf_b2
  · exact pf_b3
  · exact pf_b4
  · exact pf_b5
  · exact pf_b6
  · exact pf_b7
  · exact pf_b8
  · exact pf_b9
  · exact pf_b10
theorem pf_C : ∀ i : Nat, i < 11 → Cond.arrayOf (.field (pf_tm i) "java/lang/String" "value" "[B") .byte ∈ pf_L := by
  intro i hi
  rcases (show i = 0 ∨ i = 1 ∨ i = 2 ∨ i = 3 ∨ i = 4 ∨ i = 5 ∨ i = 6 ∨ i = 7 ∨ i = 8 ∨ i = 9 ∨ i = 10 by omega) with rfl | rfl | rfl | rfl | rfl | rfl | rfl | rfl | rfl | rfl | rfl
  · exact pf_c0
  · exact pf_c1
  · exact pf_c2
  · exact pf_c3
  · exact pf_c4
  · exact pf_c5
  · exact pf_c6
  · exact pf_c7
  · exact pf_c8
  · exact pf_c9
  · exact pf_c10
theorem pf_D : ∀ i : Nat, i < 11 → Cond.eq (.length (.field (pf_tm i) "java/lang/String" "value" "[B")) (.int (Int32.ofNat (pt_sn.getD i 0))) ∈ pf_L := by
  intro i hi
  rcases (show i = 0 ∨ i = 1 ∨ i = 2 ∨ i = 3 ∨ i = 4 ∨ i = 5 ∨ i = 6 ∨ i = 7 ∨ i = 8 ∨ i = 9 ∨ i = 10 by omega) with rfl | rfl | rfl | rfl | rfl | rfl | rfl | rfl | rfl | rfl | rfl
  · exact pf_d0
  · exact pf_d1
  · exact pf_d2
  · exact pf_d3
  · exact pf_d4
  · exact pf_d5
  · exact pf_d6
  · exact pf_d7
  · exact pf_d8
  · exact pf_d9
  · exact pf_d10
theorem pf_E : ∀ i : Nat, i < 11 → ∀ j : Nat, j < pt_sn.getD i 0 → Cond.eq (.elem (.field (pf_tm i) "java/lang/String" "value" "[B") (.int (Int32.ofNat j))) (.int ((pt_sb.getD i []).getD j 0)) ∈ pf_L := by
  intro i hi j hj
  rcases (show i = 0 ∨ i = 1 ∨ i = 2 ∨ i = 3 ∨ i = 4 ∨ i = 5 ∨ i = 6 ∨ i = 7 ∨ i = 8 ∨ i = 9 ∨ i = 10 by omega) with rfl | rfl | rfl | rfl | rfl | rfl | rfl | rfl | rfl | rfl | rfl
  · have hj : j < 6 := hj
    rcases (show j = 0 ∨ j = 1 ∨ j = 2 ∨ j = 3 ∨ j = 4 ∨ j = 5 by omega) with rfl | rfl | rfl | rfl | rfl | rfl
    · exact pf_e0_0
    · exact pf_e0_1
    · exact pf_e0_2
    · exact pf_e0_3
    · exact pf_e0_4
    · exact pf_e0_5
  · have hj : j < 7 := hj
    rcases (show j = 0 ∨ j = 1 ∨ j = 2 ∨ j = 3 ∨ j = 4 ∨ j = 5 ∨ j = 6 by omega) with rfl | rfl | rfl | rfl | rfl | rfl | rfl
    · exact pf_e1_0
    · exact pf_e1_1
    · exact pf_e1_2
    · exact pf_e1_3
    · exact pf_e1_4
    · exact pf_e1_5
    · exact pf_e1_6
  · have hj : j < 4 := hj
    rcases (show j = 0 ∨ j = 1 ∨ j = 2 ∨ j = 3 by omega) with rfl | rfl | rfl | rfl
    · exact pf_e2_0
    · exact pf_e2_1
    · exact pf_e2_2
    · exact pf_e2_3
  · have hj : j < 6 := hj
    rcases (show j = 0 ∨ j = 1 ∨ j = 2 ∨ j = 3 ∨ j = 4 ∨ j = 5 by omega) with rfl | rfl | rfl | rfl | rfl | rfl
    · exact pf_e3_0
    · exact pf_e3_1
    · exact pf_e3_2
    · exact pf_e3_3
    · exact pf_e3_4
    · exact pf_e3_5
  · have hj : j < 5 := hj
    rcases (show j = 0 ∨ j = 1 ∨ j = 2 ∨ j = 3 ∨ j = 4 by omega) with rfl | rfl | rfl | rfl | rfl
    · exact pf_e4_0
    · exact pf_e4_1
    · exact pf_e4_2
    · exact pf_e4_3
    · exact pf_e4_4
  · have hj : j < 5 := hj
    rcases (show j = 0 ∨ j = 1 ∨ j = 2 ∨ j = 3 ∨ j = 4 by omega) with rfl | rfl | rfl | rfl | rfl
    · exact pf_e5_0
    · exact pf_e5_1
    · exact pf_e5_2
    · exact pf_e5_3
    · exact pf_e5_4
  · have hj : j < 3 := hj
    rcases (show j = 0 ∨ j = 1 ∨ j = 2 by omega) with rfl | rfl | rfl
    · exact pf_e6_0
    · exact pf_e6_1
    · exact pf_e6_2
  · have hj : j < 5 := hj
    rcases (show j = 0 ∨ j = 1 ∨ j = 2 ∨ j = 3 ∨ j = 4 by omega) with rfl | rfl | rfl | rfl | rfl
    · exact pf_e7_0
    · exact pf_e7_1
    · exact pf_e7_2
    · exact pf_e7_3
    · exact pf_e7_4
  · have hj : j < 6 := hj
    rcases (show j = 0 ∨ j = 1 ∨ j = 2 ∨ j = 3 ∨ j = 4 ∨ j = 5 by omega) with rfl | rfl | rfl | rfl | rfl | rfl
    · exact pf_e8_0
    · exact pf_e8_1
    · exact pf_e8_2
    · exact pf_e8_3
    · exact pf_e8_4
    · exact pf_e8_5
  · have hj : j < 4 := hj
    rcases (show j = 0 ∨ j = 1 ∨ j = 2 ∨ j = 3 by omega) with rfl | rfl | rfl | rfl
    · exact pf_e9_0
    · exact pf_e9_1
    · exact pf_e9_2
    · exact pf_e9_3
  · have hj : j < 4 := hj
    rcases (show j = 0 ∨ j = 1 ∨ j = 2 ∨ j = 3 by omega) with rfl | rfl | rfl | rfl
    · exact pf_e10_0
    · exact pf_e10_1
    · exact pf_e10_2
    · exact pf_e10_3
theorem pf_N : ∀ i j : Nat, i < 11 → j < 11 → i ≠ j → Cond.not (Cond.eq (pf_tm i) (pf_tm j)) ∈ pf_L ∨ Cond.not (Cond.eq (pf_tm j) (pf_tm i)) ∈ pf_L := by
  intro i j hi hj hne
  rcases (show i = 0 ∨ i = 1 ∨ i = 2 ∨ i = 3 ∨ i = 4 ∨ i = 5 ∨ i = 6 ∨ i = 7 ∨ i = 8 ∨ i = 9 ∨ i = 10 by omega) with rfl | rfl | rfl | rfl | rfl | rfl | rfl | rfl | rfl | rfl | rfl
  · rcases (show j = 1 ∨ j = 2 ∨ j = 3 ∨ j = 4 ∨ j = 5 ∨ j = 6 ∨ j = 7 ∨ j = 8 ∨ j = 9 ∨ j = 10 by omega) with rfl | rfl | rfl | rfl | rfl | rfl | rfl | rfl | rfl | rfl
    · exact Or.inl pf_n0_1
    · exact Or.inl pf_n0_2
    · exact Or.inl pf_n0_3
    · exact Or.inl pf_n0_4
    · exact Or.inl pf_n0_5
    · exact Or.inl pf_n0_6
    · exact Or.inl pf_n0_7
    · exact Or.inl pf_n0_8
    · exact Or.inl pf_n0_9
    · exact Or.inl pf_n0_10
  · rcases (show j = 0 ∨ j = 2 ∨ j = 3 ∨ j = 4 ∨ j = 5 ∨ j = 6 ∨ j = 7 ∨ j = 8 ∨ j = 9 ∨ j = 10 by omega) with rfl | rfl | rfl | rfl | rfl | rfl | rfl | rfl | rfl | rfl
    · exact Or.inr pf_n0_1
    · exact Or.inl pf_n1_2
    · exact Or.inl pf_n1_3
    · exact Or.inl pf_n1_4
    · exact Or.inl pf_n1_5
    · exact Or.inl pf_n1_6
    · exact Or.inl pf_n1_7
    · exact Or.inl pf_n1_8
    · exact Or.inl pf_n1_9
    · exact Or.inl pf_n1_10
  · rcases (show j = 0 ∨ j = 1 ∨ j = 3 ∨ j = 4 ∨ j = 5 ∨ j = 6 ∨ j = 7 ∨ j = 8 ∨ j = 9 ∨ j = 10 by omega) with rfl | rfl | rfl | rfl | rfl | rfl | rfl | rfl | rfl | rfl
    · exact Or.inr pf_n0_2
    · exact Or.inr pf_n1_2
    · exact Or.inl pf_n2_3
    · exact Or.inl pf_n2_4
    · exact Or.inl pf_n2_5
    · exact Or.inl pf_n2_6
    · exact Or.inl pf_n2_7
    · exact Or.inl pf_n2_8
    · exact Or.inl pf_n2_9
    · exact Or.inl pf_n2_10
  · rcases (show j = 0 ∨ j = 1 ∨ j = 2 ∨ j = 4 ∨ j = 5 ∨ j = 6 ∨ j = 7 ∨ j = 8 ∨ j = 9 ∨ j = 10 by omega) with rfl | rfl | rfl | rfl | rfl | rfl | rfl | rfl | rfl | rfl
    · exact Or.inr pf_n0_3
    · exact Or.inr pf_n1_3
    · exact Or.inr pf_n2_3
    · exact Or.inl pf_n3_4
    · exact Or.inl pf_n3_5
    · exact Or.inl pf_n3_6
    · exact Or.inl pf_n3_7
    · exact Or.inl pf_n3_8
    · exact Or.inl pf_n3_9
    · exact Or.inl pf_n3_10
  · rcases (show j = 0 ∨ j = 1 ∨ j = 2 ∨ j = 3 ∨ j = 5 ∨ j = 6 ∨ j = 7 ∨ j = 8 ∨ j = 9 ∨ j = 10 by omega) with rfl | rfl | rfl | rfl | rfl | rfl | rfl | rfl | rfl | rfl
    · exact Or.inr pf_n0_4
    · exact Or.inr pf_n1_4
    · exact Or.inr pf_n2_4
    · exact Or.inr pf_n3_4
    · exact Or.inl pf_n4_5
    · exact Or.inl pf_n4_6
    · exact Or.inl pf_n4_7
    · exact Or.inl pf_n4_8
    · exact Or.inl pf_n4_9
    · exact Or.inl pf_n4_10
  · rcases (show j = 0 ∨ j = 1 ∨ j = 2 ∨ j = 3 ∨ j = 4 ∨ j = 6 ∨ j = 7 ∨ j = 8 ∨ j = 9 ∨ j = 10 by omega) with rfl | rfl | rfl | rfl | rfl | rfl | rfl | rfl | rfl | rfl
    · exact Or.inr pf_n0_5
    · exact Or.inr pf_n1_5
    · exact Or.inr pf_n2_5
    · exact Or.inr pf_n3_5
    · exact Or.inr pf_n4_5
    · exact Or.inl pf_n5_6
    · exact Or.inl pf_n5_7
    · exact Or.inl pf_n5_8
    · exact Or.inl pf_n5_9
    · exact Or.inl pf_n5_10
  · rcases (show j = 0 ∨ j = 1 ∨ j = 2 ∨ j = 3 ∨ j = 4 ∨ j = 5 ∨ j = 7 ∨ j = 8 ∨ j = 9 ∨ j = 10 by omega) with rfl | rfl | rfl | rfl | rfl | rfl | rfl | rfl | rfl | rfl
    · exact Or.inr pf_n0_6
    · exact Or.inr pf_n1_6
    · exact Or.inr pf_n2_6
    · exact Or.inr pf_n3_6
    · exact Or.inr pf_n4_6
    · exact Or.inr pf_n5_6
    · exact Or.inl pf_n6_7
    · exact Or.inl pf_n6_8
    · exact Or.inl pf_n6_9
    · exact Or.inl pf_n6_10
  · rcases (show j = 0 ∨ j = 1 ∨ j = 2 ∨ j = 3 ∨ j = 4 ∨ j = 5 ∨ j = 6 ∨ j = 8 ∨ j = 9 ∨ j = 10 by omega) with rfl | rfl | rfl | rfl | rfl | rfl | rfl | rfl | rfl | rfl
    · exact Or.inr pf_n0_7
    · exact Or.inr pf_n1_7
    · exact Or.inr pf_n2_7
    · exact Or.inr pf_n3_7
    · exact Or.inr pf_n4_7
    · exact Or.inr pf_n5_7
    · exact Or.inr pf_n6_7
    · exact Or.inl pf_n7_8
    · exact Or.inl pf_n7_9
    · exact Or.inl pf_n7_10
  · rcases (show j = 0 ∨ j = 1 ∨ j = 2 ∨ j = 3 ∨ j = 4 ∨ j = 5 ∨ j = 6 ∨ j = 7 ∨ j = 9 ∨ j = 10 by omega) with rfl | rfl | rfl | rfl | rfl | rfl | rfl | rfl | rfl | rfl
    · exact Or.inr pf_n0_8
    · exact Or.inr pf_n1_8
    · exact Or.inr pf_n2_8
    · exact Or.inr pf_n3_8
    · exact Or.inr pf_n4_8
    · exact Or.inr pf_n5_8
    · exact Or.inr pf_n6_8
    · exact Or.inr pf_n7_8
    · exact Or.inl pf_n8_9
    · exact Or.inl pf_n8_10
  · rcases (show j = 0 ∨ j = 1 ∨ j = 2 ∨ j = 3 ∨ j = 4 ∨ j = 5 ∨ j = 6 ∨ j = 7 ∨ j = 8 ∨ j = 10 by omega) with rfl | rfl | rfl | rfl | rfl | rfl | rfl | rfl | rfl | rfl
    · exact Or.inr pf_n0_9
    · exact Or.inr pf_n1_9
    · exact Or.inr pf_n2_9
    · exact Or.inr pf_n3_9
    · exact Or.inr pf_n4_9
    · exact Or.inr pf_n5_9
    · exact Or.inr pf_n6_9
    · exact Or.inr pf_n7_9
    · exact Or.inr pf_n8_9
    · exact Or.inl pf_n9_10
  · rcases (show j = 0 ∨ j = 1 ∨ j = 2 ∨ j = 3 ∨ j = 4 ∨ j = 5 ∨ j = 6 ∨ j = 7 ∨ j = 8 ∨ j = 9 by omega) with rfl | rfl | rfl | rfl | rfl | rfl | rfl | rfl | rfl | rfl
    · exact Or.inr pf_n0_10
    · exact Or.inr pf_n1_10
    · exact Or.inr pf_n2_10
    · exact Or.inr pf_n3_10
    · exact Or.inr pf_n4_10
    · exact Or.inr pf_n5_10
    · exact Or.inr pf_n6_10
    · exact Or.inr pf_n7_10
    · exact Or.inr pf_n8_10
    · exact Or.inr pf_n9_10
theorem pf_cs : Cond.eq (.static "java/lang/String" "COMPACT_STRINGS" "Z") (.int 1) ∈ pf_L := List.mem_of_getElem? (i := 4) (by decide +kernel)
theorem pf_si : Cond.isRef (.static "jdk/internal/util/Preconditions" "SIOOBE_FORMATTER" "Ljava/util/function/BiFunction;") ∈ pf_L := List.mem_of_getElem? (i := 5) (by decide +kernel)
theorem pf_us : Cond.isRef (.static Bundle.tN "UNASSIGNED_STACK" Bundle.steD) ∈ pf_L := List.mem_of_getElem? (i := 9) (by decide +kernel)
theorem pf_ss : Cond.isRef (.static Bundle.tN "SUPPRESSED_SENTINEL" Bundle.listD) ∈ pf_L := List.mem_of_getElem? (i := 10) (by decide +kernel)
theorem pf_start {p : Program} {s : State} {m : MethodId} {meth : Method} {c : Code} {b L : Nat} {xs : Nat → Int32} (C0 : lw_At p s m meth c b L xs) : ∃ (ρ : Nat → Nat) (τ : Nat → ClassId) (D : va_G) (aV : Nat → Nat), ρ 900 = b ∧ pm_Kn ρ τ D s.heap.size aV s s.heap := by
  obtain ⟨-, -, -, -, -, hts, -, -, -, hgv⟩ := C0
  have hf : ∀ w ∈ pf_L, w.before #[Value.ref b] s = true := flat_of_before _ hgv
  have hp : ∀ w ∈ pm_tb, w.before #[Value.ref b] s = true := fun w hw => hts w (List.mem_filter.mp hw).1
  have hA : ∀ a : Nat, a < s.heap.size → ¬ s.heap.size ≤ a := fun a h => Nat.not_le.mpr h
  obtain ⟨c0, i0, k0⟩ := u_known (C := RX0) (T := TX0) (N := 12) (n := 12) hp pt_C0.2.1 (hts _ (List.mem_of_getElem? (i := 134) (by decide +kernel)))
  obtain ⟨c1, i1, k1⟩ := u_known (C := RX1) (T := TX1) (N := 4) (n := 4) hp pt_C1.2.1 (hts _ (List.mem_of_getElem? (i := 183) (by decide +kernel)))
  obtain ⟨c2, i2, k2⟩ := u_known (C := RX2) (T := TX2) (N := 7) (n := 7) hp pt_C2.2.1 (hts _ (List.mem_of_getElem? (i := 104) (by decide +kernel)))
  obtain ⟨c3, i3, k3⟩ := u_known (C := RX3) (T := TX3) (N := 2) (n := 2) hp pt_C3.2.1 (hts _ (List.mem_of_getElem? (i := 87) (by decide +kernel)))
  obtain ⟨c4, i4, k4⟩ := u_known (C := RX4) (T := TX4) (N := 12) (n := 12) hp pt_C4.2.1 (hts _ (List.mem_of_getElem? (i := 203) (by decide +kernel)))
  obtain ⟨c5, i5, k5⟩ := u_known (C := RX5) (T := TX5) (N := 7) (n := 7) hp pt_C5.2.1 (hts _ (List.mem_of_getElem? (i := 79) (by decide +kernel)))
  obtain ⟨c6, i6, k6⟩ := u_known (C := RX6) (T := TX6) (N := 23) (n := 23) hp pt_C6.2.1 (hts _ (List.mem_of_getElem? (i := 834) (by decide +kernel)))
  obtain ⟨tI, qI, mI, f1I, f2I, f3I⟩ := Cond.arrayClass_spec (args := #[Value.ref b]) (first := s) (o := none) (s := s) (idx := []) (type := .int) (hts _ (List.mem_of_getElem? (i := 180) (by decide +kernel)))
  obtain ⟨tJ, qJ, mJ, f1J, f2J, f3J⟩ := Cond.arrayClass_spec (args := #[Value.ref b]) (first := s) (o := none) (s := s) (idx := []) (type := .long) (hts _ (List.mem_of_getElem? (i := 181) (by decide +kernel)))
  obtain ⟨tB, qB, mB, f1B, f2B, f3B⟩ := Cond.arrayClass_spec (args := #[Value.ref b]) (first := s) (o := none) (s := s) (idx := []) (type := .byte) (hts _ (List.mem_of_getElem? (i := 102) (by decide +kernel)))
  obtain ⟨aK, aV, hS, hE⟩ := vk_Sof (args := #[Value.ref b]) (s := s) (N := 11) (tm := pf_tm) (len := pt_sn) (byt := pt_sb) (A := fun q => s.heap.size ≤ q) (by decide +kernel) (fun i h => hf _ (pf_A i h)) (fun i h => hf _ (pf_B i h)) (fun i h => hf _ (pf_C i h)) (fun i h => hf _ (pf_D i h)) (fun i h j hj => hf _ (pf_E i h j hj)) (fun i j hi hj hne => (pf_N i j hi hj hne).imp (hf _) (hf _)) hA
  refine ⟨fun k => if k = 900 then b else aK (k - 1000), fun t => if t = 0 then tI else if t = 1 then tJ else tB, (fun k => if k = 0 then c0 else if k = 1 then c1 else if k = 2 then c2 else if k = 3 then c3 else if k = 4 then c4 else if k = 5 then c5 else c6, fun k => if k = 0 then i0 else if k = 1 then i1 else if k = 2 then i2 else if k = 3 then i3 else if k = 4 then i4 else if k = 5 then i5 else i6), aV, rfl, ⟨fun k q hq => ?_, fun k q hq => ?_⟩, ?_, fun j hj => ?_, ?_, ?_⟩
  · match k with
    | 0 => cases hq; exact k0
    | 1 => cases hq; exact k1
    | 2 => cases hq; exact k2
    | 3 => cases hq; exact k3
    | 4 => cases hq; exact k4
    | 5 => cases hq; exact k5
    | 6 => cases hq; exact k6
    | k + 7 => cases hq
  · match k with
    | 0 => cases hq; exact ⟨fun n z => ⟨fun k h => (by cases h), qI, f2I, mI, f3I⟩, f1I⟩
    | 1 => cases hq; exact ⟨fun n z => ⟨fun k h => (by cases h), qJ, f2J, mJ, f3J⟩, f1J⟩
    | 2 => cases hq; exact ⟨fun n z => ⟨fun k h => (by cases h), qB, f2B, mB, f3B⟩, f1B⟩
    | k + 3 => cases hq
  · intro q hq
    have hq : q ∈ [(2, 141, 2, 58), (2, 144, 2, 59)] := hq
    simp only [List.mem_cons, List.not_mem_nil, or_false] at hq
    rcases hq with rfl | rfl
    · exact va_Nw.of rfl (hts _ (List.mem_of_getElem? (i := 471) (by decide +kernel)))
    · exact va_Nw.of rfl (hts _ (List.mem_of_getElem? (i := 474) (by decide +kernel)))
  · have hj : j < 11 := hj
    have e9 : (if 1000 + j = 900 then b else aK (1000 + j - 1000)) = aK j := by
      rw [if_neg (by omega), Nat.add_sub_cancel_left]
    show vk_R RX2 _ _ (if 1000 + j = 900 then b else aK (1000 + j - 1000)) s
    rw [e9]
    have hev := hE j hj
    rcases (show j = 0 ∨ j = 1 ∨ j = 2 ∨ j = 3 ∨ j = 4 ∨ j = 5 ∨ j = 6 ∨ j = 7 ∨ j = 8 ∨ j = 9 ∨ j = 10 by omega) with rfl | rfl | rfl | rfl | rfl | rfl | rfl | rfl | rfl | rfl | rfl
    · exact vk_R.of (hts _ (List.mem_of_getElem? (i := 336) (by decide +kernel))) hev
    · exact vk_R.of (hts _ (List.mem_of_getElem? (i := 402) (by decide +kernel))) hev
    · exact vk_R.of (hts _ (List.mem_of_getElem? (i := 407) (by decide +kernel))) hev
    · exact vk_R.of (hts _ (List.mem_of_getElem? (i := 408) (by decide +kernel))) hev
    · exact vk_R.of (hts _ (List.mem_of_getElem? (i := 409) (by decide +kernel))) hev
    · exact vk_R.of (hts _ (List.mem_of_getElem? (i := 418) (by decide +kernel))) hev
    · exact vk_R.of (hts _ (List.mem_of_getElem? (i := 460) (by decide +kernel))) hev
    · exact vk_R.of (hts _ (List.mem_of_getElem? (i := 461) (by decide +kernel))) hev
    · exact vk_R.of (hts _ (List.mem_of_getElem? (i := 462) (by decide +kernel))) hev
    · exact vk_R.of (hts _ (List.mem_of_getElem? (i := 482) (by decide +kernel))) hev
    · exact vk_R.of (hts _ (List.mem_of_getElem? (i := 483) (by decide +kernel))) hev
  · have e9 : (fun j => if 1000 + j = 900 then b else aK (1000 + j - 1000)) = aK := funext fun j => by
      rw [if_neg (by omega), Nat.add_sub_cancel_left]
    show vk_S 11 pt_sn pt_sb (fun j => if 1000 + j = 900 then b else aK (1000 + j - 1000)) aV _ s s.heap
    rw [e9]
    exact hS
  · refine ⟨va_Zof (hts _ (List.mem_of_getElem? (i := 350) (by decide +kernel))) (hts _ (List.mem_of_getElem? (i := 70) (by decide +kernel))) (va_eqt (hf _ pf_cs)) hA, va_Zqof (hts _ (List.mem_of_getElem? (i := 366) (by decide +kernel))) (hts _ (List.mem_of_getElem? (i := 72) (by decide +kernel))) (hf _ pf_si) hA, vx_Zqof (hts _ (List.mem_of_getElem? (i := 618) (by decide +kernel))) (hts _ (List.mem_of_getElem? (i := 74) (by decide +kernel))) (hf _ pf_us) hA, vx_Zqof (hts _ (List.mem_of_getElem? (i := 620) (by decide +kernel))) (hts _ (List.mem_of_getElem? (i := 74) (by decide +kernel))) (hf _ pf_ss) hA, fun q hq => ?_, va_Nw.of rfl (hts _ (List.mem_of_getElem? (i := 593) (by decide +kernel))), fun q hq => ?_⟩
    · have hcl : s.vm.findClass RX5 = some c5 := k5.2.1
      have hq : q ∈ [(104, "no such quarter"), (116, "a quarter has no such thing"), (250, "no such run of quarters"), (153, "no such instrument"), (169, "a run has no such thing")] := hq
      simp only [List.mem_cons, List.not_mem_nil, or_false] at hq
      rcases hq with rfl | rfl | rfl | rfl | rfl
      · have h1 := hts _ (List.mem_of_getElem? (a := Cond.stringRef RX5 104 "no such quarter") (i := 630) (by decide +kernel))
        obtain ⟨_, _, _, sa, -, -, -, -, -, hev⟩ := Cond.stringRef_spec (args := #[Value.ref b]) (first := s) (o := none) (idx := []) hcl h1
        exact ⟨sa, vk_R.of h1 hev⟩
      · have h1 := hts _ (List.mem_of_getElem? (a := Cond.stringRef RX5 116 "a quarter has no such thing") (i := 656) (by decide +kernel))
        obtain ⟨_, _, _, sa, -, -, -, -, -, hev⟩ := Cond.stringRef_spec (args := #[Value.ref b]) (first := s) (o := none) (idx := []) hcl h1
        exact ⟨sa, vk_R.of h1 hev⟩
      · have h1 := hts _ (List.mem_of_getElem? (a := Cond.stringRef RX5 250 "no such run of quarters") (i := 667) (by decide +kernel))
        obtain ⟨_, _, _, sa, -, -, -, -, -, hev⟩ := Cond.stringRef_spec (args := #[Value.ref b]) (first := s) (o := none) (idx := []) hcl h1
        exact ⟨sa, vk_R.of h1 hev⟩
      · have h1 := hts _ (List.mem_of_getElem? (a := Cond.stringRef RX5 153 "no such instrument") (i := 683) (by decide +kernel))
        obtain ⟨_, _, _, sa, -, -, -, -, -, hev⟩ := Cond.stringRef_spec (args := #[Value.ref b]) (first := s) (o := none) (idx := []) hcl h1
        exact ⟨sa, vk_R.of h1 hev⟩
      · have h1 := hts _ (List.mem_of_getElem? (a := Cond.stringRef RX5 169 "a run has no such thing") (i := 722) (by decide +kernel))
        obtain ⟨_, _, _, sa, -, -, -, -, -, hev⟩ := Cond.stringRef_spec (args := #[Value.ref b]) (first := s) (o := none) (idx := []) hcl h1
        exact ⟨sa, vk_R.of h1 hev⟩
    · have hq : q ∈ [Bundle.initS "java/lang/RuntimeException", Bundle.initS "java/lang/Exception", Bundle.initS Bundle.tN] := hq
      simp only [List.mem_cons, List.not_mem_nil, or_false] at hq
      rcases hq with rfl | rfl | rfl
      · exact va_Nw.of rfl (hts _ (List.mem_of_getElem? (i := 595) (by decide +kernel)))
      · exact va_Nw.of rfl (hts _ (List.mem_of_getElem? (i := 597) (by decide +kernel)))
      · exact va_Nw.of rfl (hts _ (List.mem_of_getElem? (i := 599) (by decide +kernel)))
theorem whole_start {p : Program} {e : Env} {s : State} {m : MethodId} {below : List Frame} {meth : Method} {c : Code} (l : Launch) (hflags : l.flags = flags0) {b L : Nat} {xs : Nat → Int32} (hL : L ≤ 3072) (C0 : lw_At p s m meth c b L xs) : W p l e room_1 s m #[Value.ref b] below meth c s.heap [] 0 0 (lw_Z below #[Value.ref b] s) (entryFrame m ([Value.ref b] : List Value).toArray 8) := by
  obtain ⟨ρ, τ, D, aV, rfl, hK⟩ := pf_start C0
  obtain ⟨hx, hb, hr, hml, hown, hts, hX, hbl, hlocks, hgv⟩ := C0
  have hlt : l.stackTraces = false := by
    show (!l.flags.contains noTraceFlag) = false
    rw [hflags]
    decide +kernel
  have hsim : pm_Sim ρ τ D s.heap.size (pc_w []) s.heap := ⟨fun k e0 hk => (by cases hk), fun k j e0 f0 hk => (by cases hk)⟩
  rw [lg_entry_eq]
  exact pl_all (e := e) (below := below) (Q := lw_Z below #[Value.ref (ρ 900)] s) hx hb hr hml hlocks rfl rfl hX hbl rfl hL rfl hown (fun w hw => hts w (List.mem_filter.mp hw).1) hK hlt s.heap [] _ hsim va_S.rf (pm_ent_lh ρ [.ref 900] (n := 8) (Nat.le_of_ble_eq_true rfl))
