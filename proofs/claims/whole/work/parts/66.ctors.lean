/-! THE CONSTRUCTORS -/
theorem dX0_init_0 : decode cX0_init 0 = .ok (.aload_n 0, 1) := by decide +kernel
theorem dX0_init_1 : decode cX0_init 1 = .ok (.invokespecial 3, 3) := by decide +kernel
theorem dX0_init_4 : decode cX0_init 4 = .ok (.aload_n 0, 1) := by decide +kernel
theorem dX0_init_5 : decode cX0_init 5 = .ok (.bipush 8, 2) := by decide +kernel
theorem dX0_init_7 : decode cX0_init 7 = .ok (.newarray .int, 2) := by decide +kernel
theorem dX0_init_9 : decode cX0_init 9 = .ok (.putfield 9, 3) := by decide +kernel
theorem dX0_init_12 : decode cX0_init 12 = .ok (.aload_n 0, 1) := by decide +kernel
theorem dX0_init_13 : decode cX0_init 13 = .ok (.bipush 8, 2) := by decide +kernel
theorem dX0_init_15 : decode cX0_init 15 = .ok (.newarray .long, 2) := by decide +kernel
theorem dX0_init_17 : decode cX0_init 17 = .ok (.putfield 15, 3) := by decide +kernel
theorem dX0_init_20 : decode cX0_init 20 = .ok (.aload_n 0, 1) := by decide +kernel
theorem dX0_init_21 : decode cX0_init 21 = .ok (.bipush 8, 2) := by decide +kernel
theorem dX0_init_23 : decode cX0_init 23 = .ok (.newarray .long, 2) := by decide +kernel
theorem dX0_init_25 : decode cX0_init 25 = .ok (.putfield 19, 3) := by decide +kernel
theorem dX0_init_28 : decode cX0_init 28 = .ok (.aload_n 0, 1) := by decide +kernel
theorem dX0_init_29 : decode cX0_init 29 = .ok (.bipush 8, 2) := by decide +kernel
theorem dX0_init_31 : decode cX0_init 31 = .ok (.newarray .long, 2) := by decide +kernel
theorem dX0_init_33 : decode cX0_init 33 = .ok (.putfield 22, 3) := by decide +kernel
theorem dX0_init_36 : decode cX0_init 36 = .ok (.aload_n 0, 1) := by decide +kernel
theorem dX0_init_37 : decode cX0_init 37 = .ok (.bipush 8, 2) := by decide +kernel
theorem dX0_init_39 : decode cX0_init 39 = .ok (.newarray .int, 2) := by decide +kernel
theorem dX0_init_41 : decode cX0_init 41 = .ok (.putfield 25, 3) := by decide +kernel
theorem dX0_init_44 : decode cX0_init 44 = .ok (.return_, 1) := by decide +kernel
theorem dX1_init_0 : decode cX1_init 0 = .ok (.aload_n 0, 1) := by decide +kernel
theorem dX1_init_1 : decode cX1_init 1 = .ok (.invokespecial 1, 3) := by decide +kernel
theorem dX1_init_4 : decode cX1_init 4 = .ok (.aload_n 0, 1) := by decide +kernel
theorem dX1_init_5 : decode cX1_init 5 = .ok (.bipush 10, 2) := by decide +kernel
theorem dX1_init_7 : decode cX1_init 7 = .ok (.newarray .int, 2) := by decide +kernel
theorem dX1_init_9 : decode cX1_init 9 = .ok (.putfield 9, 3) := by decide +kernel
theorem dX1_init_12 : decode cX1_init 12 = .ok (.aload_n 0, 1) := by decide +kernel
theorem dX1_init_13 : decode cX1_init 13 = .ok (.bipush 10, 2) := by decide +kernel
theorem dX1_init_15 : decode cX1_init 15 = .ok (.newarray .int, 2) := by decide +kernel
theorem dX1_init_17 : decode cX1_init 17 = .ok (.putfield 13, 3) := by decide +kernel
theorem dX1_init_20 : decode cX1_init 20 = .ok (.aload_n 0, 1) := by decide +kernel
theorem dX1_init_21 : decode cX1_init 21 = .ok (.bipush 10, 2) := by decide +kernel
theorem dX1_init_23 : decode cX1_init 23 = .ok (.newarray .int, 2) := by decide +kernel
theorem dX1_init_25 : decode cX1_init 25 = .ok (.putfield 16, 3) := by decide +kernel
theorem dX1_init_28 : decode cX1_init 28 = .ok (.aload_n 0, 1) := by decide +kernel
theorem dX1_init_29 : decode cX1_init 29 = .ok (.iconst 0, 1) := by decide +kernel
theorem dX1_init_30 : decode cX1_init 30 = .ok (.putfield 19, 3) := by decide +kernel
theorem dX1_init_33 : decode cX1_init 33 = .ok (.return_, 1) := by decide +kernel
theorem dX2_init_0 : decode cX2_init 0 = .ok (.aload_n 0, 1) := by decide +kernel
theorem dX2_init_1 : decode cX2_init 1 = .ok (.invokespecial 3, 3) := by decide +kernel
theorem dX2_init_4 : decode cX2_init 4 = .ok (.aload_n 0, 1) := by decide +kernel
theorem dX2_init_5 : decode cX2_init 5 = .ok (.aload_n 1, 1) := by decide +kernel
theorem dX2_init_6 : decode cX2_init 6 = .ok (.putfield 9, 3) := by decide +kernel
theorem dX2_init_9 : decode cX2_init 9 = .ok (.return_, 1) := by decide +kernel
theorem dX3_init_0 : decode cX3_init 0 = .ok (.aload_n 0, 1) := by decide +kernel
theorem dX3_init_1 : decode cX3_init 1 = .ok (.invokespecial 1, 3) := by decide +kernel
theorem dX3_init_4 : decode cX3_init 4 = .ok (.aload_n 0, 1) := by decide +kernel
theorem dX3_init_5 : decode cX3_init 5 = .ok (.sipush 740, 3) := by decide +kernel
theorem dX3_init_8 : decode cX3_init 8 = .ok (.newarray .byte, 2) := by decide +kernel
theorem dX3_init_10 : decode cX3_init 10 = .ok (.putfield 9, 3) := by decide +kernel
theorem dX3_init_13 : decode cX3_init 13 = .ok (.aload_n 0, 1) := by decide +kernel
theorem dX3_init_14 : decode cX3_init 14 = .ok (.iconst 0, 1) := by decide +kernel
theorem dX3_init_15 : decode cX3_init 15 = .ok (.putfield 13, 3) := by decide +kernel
theorem dX3_init_18 : decode cX3_init 18 = .ok (.return_, 1) := by decide +kernel
theorem dX4_init_0 : decode cX4_init 0 = .ok (.aload_n 0, 1) := by decide +kernel
theorem dX4_init_1 : decode cX4_init 1 = .ok (.invokespecial 3, 3) := by decide +kernel
theorem dX4_init_4 : decode cX4_init 4 = .ok (.aload_n 0, 1) := by decide +kernel
theorem dX4_init_5 : decode cX4_init 5 = .ok (.iconst 4, 1) := by decide +kernel
theorem dX4_init_6 : decode cX4_init 6 = .ok (.newarray .int, 2) := by decide +kernel
theorem dX4_init_8 : decode cX4_init 8 = .ok (.putfield 9, 3) := by decide +kernel
theorem dX4_init_11 : decode cX4_init 11 = .ok (.aload_n 0, 1) := by decide +kernel
theorem dX4_init_12 : decode cX4_init 12 = .ok (.iconst 4, 1) := by decide +kernel
theorem dX4_init_13 : decode cX4_init 13 = .ok (.newarray .int, 2) := by decide +kernel
theorem dX4_init_15 : decode cX4_init 15 = .ok (.putfield 15, 3) := by decide +kernel
theorem dX4_init_18 : decode cX4_init 18 = .ok (.aload_n 0, 1) := by decide +kernel
theorem dX4_init_19 : decode cX4_init 19 = .ok (.bipush 20, 2) := by decide +kernel
theorem dX4_init_21 : decode cX4_init 21 = .ok (.newarray .int, 2) := by decide +kernel
theorem dX4_init_23 : decode cX4_init 23 = .ok (.putfield 18, 3) := by decide +kernel
theorem dX4_init_26 : decode cX4_init 26 = .ok (.aload_n 0, 1) := by decide +kernel
theorem dX4_init_27 : decode cX4_init 27 = .ok (.bipush 20, 2) := by decide +kernel
theorem dX4_init_29 : decode cX4_init 29 = .ok (.newarray .int, 2) := by decide +kernel
theorem dX4_init_31 : decode cX4_init 31 = .ok (.putfield 21, 3) := by decide +kernel
theorem dX4_init_34 : decode cX4_init 34 = .ok (.aload_n 0, 1) := by decide +kernel
theorem dX4_init_35 : decode cX4_init 35 = .ok (.bipush 20, 2) := by decide +kernel
theorem dX4_init_37 : decode cX4_init 37 = .ok (.newarray .int, 2) := by decide +kernel
theorem dX4_init_39 : decode cX4_init 39 = .ok (.putfield 24, 3) := by decide +kernel
theorem dX4_init_42 : decode cX4_init 42 = .ok (.aload_n 0, 1) := by decide +kernel
theorem dX4_init_43 : decode cX4_init 43 = .ok (.bipush 8, 2) := by decide +kernel
theorem dX4_init_45 : decode cX4_init 45 = .ok (.newarray .int, 2) := by decide +kernel
theorem dX4_init_47 : decode cX4_init 47 = .ok (.putfield 27, 3) := by decide +kernel
theorem dX4_init_50 : decode cX4_init 50 = .ok (.aload_n 0, 1) := by decide +kernel
theorem dX4_init_51 : decode cX4_init 51 = .ok (.bipush 8, 2) := by decide +kernel
theorem dX4_init_53 : decode cX4_init 53 = .ok (.newarray .int, 2) := by decide +kernel
theorem dX4_init_55 : decode cX4_init 55 = .ok (.putfield 30, 3) := by decide +kernel
theorem dX4_init_58 : decode cX4_init 58 = .ok (.aload_n 0, 1) := by decide +kernel
theorem dX4_init_59 : decode cX4_init 59 = .ok (.bipush 8, 2) := by decide +kernel
theorem dX4_init_61 : decode cX4_init 61 = .ok (.newarray .int, 2) := by decide +kernel
theorem dX4_init_63 : decode cX4_init 63 = .ok (.putfield 33, 3) := by decide +kernel
theorem dX4_init_66 : decode cX4_init 66 = .ok (.aload_n 0, 1) := by decide +kernel
theorem dX4_init_67 : decode cX4_init 67 = .ok (.bipush 8, 2) := by decide +kernel
theorem dX4_init_69 : decode cX4_init 69 = .ok (.newarray .int, 2) := by decide +kernel
theorem dX4_init_71 : decode cX4_init 71 = .ok (.putfield 36, 3) := by decide +kernel
theorem dX4_init_74 : decode cX4_init 74 = .ok (.aload_n 0, 1) := by decide +kernel
theorem dX4_init_75 : decode cX4_init 75 = .ok (.invokevirtual 39, 3) := by decide +kernel
theorem dX4_init_78 : decode cX4_init 78 = .ok (.return_, 1) := by decide +kernel
theorem dX5_init_0 : decode cX5_init 0 = .ok (.aload_n 0, 1) := by decide +kernel
theorem dX5_init_1 : decode cX5_init 1 = .ok (.invokespecial 3, 3) := by decide +kernel
theorem dX5_init_4 : decode cX5_init 4 = .ok (.aload_n 0, 1) := by decide +kernel
theorem dX5_init_5 : decode cX5_init 5 = .ok (.new 9, 3) := by decide +kernel
theorem dX5_init_8 : decode cX5_init 8 = .ok (.dup, 1) := by decide +kernel
theorem dX5_init_9 : decode cX5_init 9 = .ok (.invokespecial 11, 3) := by decide +kernel
theorem dX5_init_12 : decode cX5_init 12 = .ok (.putfield 12, 3) := by decide +kernel
theorem dX5_init_15 : decode cX5_init 15 = .ok (.aload_n 0, 1) := by decide +kernel
theorem dX5_init_16 : decode cX5_init 16 = .ok (.new 16, 3) := by decide +kernel
theorem dX5_init_19 : decode cX5_init 19 = .ok (.dup, 1) := by decide +kernel
theorem dX5_init_20 : decode cX5_init 20 = .ok (.aload_n 0, 1) := by decide +kernel
theorem dX5_init_21 : decode cX5_init 21 = .ok (.getfield 12, 3) := by decide +kernel
theorem dX5_init_24 : decode cX5_init 24 = .ok (.invokespecial 18, 3) := by decide +kernel
theorem dX5_init_27 : decode cX5_init 27 = .ok (.putfield 21, 3) := by decide +kernel
theorem dX5_init_30 : decode cX5_init 30 = .ok (.aload_n 0, 1) := by decide +kernel
theorem dX5_init_31 : decode cX5_init 31 = .ok (.new 25, 3) := by decide +kernel
theorem dX5_init_34 : decode cX5_init 34 = .ok (.dup, 1) := by decide +kernel
theorem dX5_init_35 : decode cX5_init 35 = .ok (.invokespecial 27, 3) := by decide +kernel
theorem dX5_init_38 : decode cX5_init 38 = .ok (.putfield 28, 3) := by decide +kernel
theorem dX5_init_41 : decode cX5_init 41 = .ok (.aload_n 0, 1) := by decide +kernel
theorem dX5_init_42 : decode cX5_init 42 = .ok (.new 32, 3) := by decide +kernel
theorem dX5_init_45 : decode cX5_init 45 = .ok (.dup, 1) := by decide +kernel
theorem dX5_init_46 : decode cX5_init 46 = .ok (.invokespecial 34, 3) := by decide +kernel
theorem dX5_init_49 : decode cX5_init 49 = .ok (.putfield 35, 3) := by decide +kernel
theorem dX5_init_52 : decode cX5_init 52 = .ok (.aload_n 0, 1) := by decide +kernel
theorem dX5_init_53 : decode cX5_init 53 = .ok (.new 39, 3) := by decide +kernel
theorem dX5_init_56 : decode cX5_init 56 = .ok (.dup, 1) := by decide +kernel
theorem dX5_init_57 : decode cX5_init 57 = .ok (.invokespecial 41, 3) := by decide +kernel
theorem dX5_init_60 : decode cX5_init 60 = .ok (.putfield 42, 3) := by decide +kernel
theorem dX5_init_63 : decode cX5_init 63 = .ok (.aload_n 0, 1) := by decide +kernel
theorem dX5_init_64 : decode cX5_init 64 = .ok (.new 39, 3) := by decide +kernel
theorem dX5_init_67 : decode cX5_init 67 = .ok (.dup, 1) := by decide +kernel
theorem dX5_init_68 : decode cX5_init 68 = .ok (.invokespecial 41, 3) := by decide +kernel
theorem dX5_init_71 : decode cX5_init 71 = .ok (.putfield 46, 3) := by decide +kernel
theorem dX5_init_74 : decode cX5_init 74 = .ok (.aload_n 0, 1) := by decide +kernel
theorem dX5_init_75 : decode cX5_init 75 = .ok (.iconst 0, 1) := by decide +kernel
theorem dX5_init_76 : decode cX5_init 76 = .ok (.putfield 49, 3) := by decide +kernel
theorem dX5_init_79 : decode cX5_init 79 = .ok (.return_, 1) := by decide +kernel
theorem dX6_init_0 : decode cX6_init 0 = .ok (.aload_n 0, 1) := by decide +kernel
theorem dX6_init_1 : decode cX6_init 1 = .ok (.invokespecial 78, 3) := by decide +kernel
theorem dX6_init_4 : decode cX6_init 4 = .ok (.aload_n 0, 1) := by decide +kernel
theorem dX6_init_5 : decode cX6_init 5 = .ok (.sipush 740, 3) := by decide +kernel
theorem dX6_init_8 : decode cX6_init 8 = .ok (.newarray .int, 2) := by decide +kernel
theorem dX6_init_10 : decode cX6_init 10 = .ok (.putfield 7, 3) := by decide +kernel
theorem dX6_init_13 : decode cX6_init 13 = .ok (.aload_n 0, 1) := by decide +kernel
theorem dX6_init_14 : decode cX6_init 14 = .ok (.bipush 103, 2) := by decide +kernel
theorem dX6_init_16 : decode cX6_init 16 = .ok (.newarray .int, 2) := by decide +kernel
theorem dX6_init_18 : decode cX6_init 18 = .ok (.putfield 84, 3) := by decide +kernel
theorem dX6_init_21 : decode cX6_init 21 = .ok (.aload_n 0, 1) := by decide +kernel
theorem dX6_init_22 : decode cX6_init 22 = .ok (.bipush 103, 2) := by decide +kernel
theorem dX6_init_24 : decode cX6_init 24 = .ok (.newarray .int, 2) := by decide +kernel
theorem dX6_init_26 : decode cX6_init 26 = .ok (.putfield 87, 3) := by decide +kernel
theorem dX6_init_29 : decode cX6_init 29 = .ok (.aload_n 0, 1) := by decide +kernel
theorem dX6_init_30 : decode cX6_init 30 = .ok (.sipush 1030, 3) := by decide +kernel
theorem dX6_init_33 : decode cX6_init 33 = .ok (.newarray .int, 2) := by decide +kernel
theorem dX6_init_35 : decode cX6_init 35 = .ok (.putfield 90, 3) := by decide +kernel
theorem dX6_init_38 : decode cX6_init 38 = .ok (.aload_n 0, 1) := by decide +kernel
theorem dX6_init_39 : decode cX6_init 39 = .ok (.bipush 8, 2) := by decide +kernel
theorem dX6_init_41 : decode cX6_init 41 = .ok (.newarray .long, 2) := by decide +kernel
theorem dX6_init_43 : decode cX6_init 43 = .ok (.putfield 93, 3) := by decide +kernel
theorem dX6_init_46 : decode cX6_init 46 = .ok (.aload_n 0, 1) := by decide +kernel
theorem dX6_init_47 : decode cX6_init 47 = .ok (.bipush 8, 2) := by decide +kernel
theorem dX6_init_49 : decode cX6_init 49 = .ok (.newarray .long, 2) := by decide +kernel
theorem dX6_init_51 : decode cX6_init 51 = .ok (.putfield 97, 3) := by decide +kernel
theorem dX6_init_54 : decode cX6_init 54 = .ok (.aload_n 0, 1) := by decide +kernel
theorem dX6_init_55 : decode cX6_init 55 = .ok (.bipush 8, 2) := by decide +kernel
theorem dX6_init_57 : decode cX6_init 57 = .ok (.newarray .int, 2) := by decide +kernel
theorem dX6_init_59 : decode cX6_init 59 = .ok (.putfield 100, 3) := by decide +kernel
theorem dX6_init_62 : decode cX6_init 62 = .ok (.aload_n 0, 1) := by decide +kernel
theorem dX6_init_63 : decode cX6_init 63 = .ok (.getfield 84, 3) := by decide +kernel
theorem dX6_init_66 : decode cX6_init 66 = .ok (.invokestatic 103, 3) := by decide +kernel
theorem dX6_init_69 : decode cX6_init 69 = .ok (.return_, 1) := by decide +kernel
section PKM
variable {l : Launch} {ρ : Nat → Nat} {τ : Nat → ClassId} {D : va_G} {sz : Nat} {aV : Nat → Nat}
def pL0 : pc_Ls := [(0, (.inr (5, [.null, .null, .null, .null, .null, .null, .int 0])))]
def pL1 : pc_Ls := (10, (.inr (3, [.null, .int 0]))) :: pL0
def pL2 : pc_Ls := (11, (.inl (2, 740, .inl (fun _ => 0)))) :: pL1
def pL3 : pc_Ls := (11, (.inl (2, 740, .inl (fun _ => 0)))) :: (10, (.inr (3, [.ref 11, .int 0]))) :: pL0
def pL4 : pc_Ls := pL3
set_option maxRecDepth 100000 in
set_option maxHeartbeats 4000000 in
theorem pk_d10 : pc_Met l ρ τ D sz aV yX3_init cX3_init 1 { frames := 1, cells := 1, slots := 740, locals := 20 } 1 740 11 [.ref 10] pL1 pL4 := by
  refine pc_open (o := 3) (k := 10) (by decide +kernel) rfl rfl (Nat.le_of_ble_eq_true rfl) rfl ?_
  intro p e s m args below meth c hx hb hml hown hts hr hlocks hin hK hsz
  show pm_K p l e _ s m args below meth c 0 0 _ ρ τ D sz (0, [some (.ref 10)], [], pc_w pL1)
  refine pm_sB_ok hx hb dX3_init_0 rfl ?_
  refine pc_obj (own := RX3) hx hb hml hown hts (pm_in 91 (by decide +kernel) rfl) ⟨(Nat.le_of_ble_eq_true rfl), (Nat.le_of_ble_eq_true rfl)⟩ (Nat.le_of_ble_eq_true rfl) dX3_init_1 ?_
  refine pm_sB_ok hx hb dX3_init_4 rfl ?_
  refine pm_sA_ok hx hb dX3_init_5 rfl ?_
  refine pc_newa (N := 11) (t := 2) (N' := 740) (ty := .byte) (a0 := (740, .inl (fun _ => 0))) hx hb hts hK hsz rfl rfl (fun h => h) (pm_in 102 (by decide +kernel) rfl) (fun _ => rfl) (by decide +kernel) (by decide +kernel) (by decide +kernel) (by decide +kernel) (Nat.le_of_ble_eq_true rfl) rfl rfl (Nat.le_of_ble_eq_true rfl) (Nat.le_of_ble_eq_true rfl) dX3_init_8 ?_
  intro r1 a1
  have hK1 := a1.kn hK
  have hA1 : pc_ag 11 ρ r1 := (pc_ag.rf).trans a1 (Nat.le_of_ble_eq_true rfl)
  show pm_K p l e _ s m args below meth c _ _ _ r1 τ D sz (10, [some (.ref 10)], [.ref 11, .ref 10], pc_w pL2)
  refine pc_putF (ix := 9) (ci := 3) (k := 0) (t := 2) (o := 3) (L' := pL3) hx hb hown hts hK1 hin (fun q h => by cases h; rfl) (by decide +kernel) (fs := [.null, .int 0]) rfl (Nat.le_of_ble_eq_true rfl) rfl rfl dX3_init_10 ?_
  refine pm_sB_ok hx hb dX3_init_13 rfl ?_
  refine pm_sA_ok hx hb dX3_init_14 rfl ?_
  refine pc_put (ix := 13) (ci := 3) (k := 1) (t := 0) (o := 3) (L' := pL4) hx hb hown hts hK1 (by decide +kernel) (fs := [.ref 11, .int 0]) rfl (Nat.le_of_ble_eq_true rfl) rfl rfl dX3_init_15 ?_
  exact pc_fin hx hb hr hlocks hA1 rfl rfl dX3_init_18
def pL5 : pc_Ls := [(11, (.inl (2, 740, .inl (fun _ => 0)))), (10, (.inr (3, [.ref 11, .int 0]))), (0, (.inr (5, [.ref 10, .null, .null, .null, .null, .null, .int 0])))]
def pL6 : pc_Ls := (20, (.inr (2, [.null, .int 0, .int 0, .int 0, .int 0, .int 0, .int 0]))) :: pL5
def pL7 : pc_Ls := (20, (.inr (2, [.ref 10, .int 0, .int 0, .int 0, .int 0, .int 0, .int 0]))) :: pL5
set_option maxRecDepth 100000 in
set_option maxHeartbeats 4000000 in
theorem pk_d20 : pc_Met l ρ τ D sz aV yX2_init cX2_init 2 { frames := 1, cells := 0, slots := 0, locals := 20 } 0 0 21 [.ref 20, .ref 10] pL6 pL7 := by
  refine pc_open (o := 2) (k := 20) (by decide +kernel) rfl rfl (Nat.le_of_ble_eq_true rfl) rfl ?_
  intro p e s m args below meth c hx hb hml hown hts hr hlocks hin hK hsz
  show pm_K p l e _ s m args below meth c 0 0 _ ρ τ D sz (0, [some (.ref 20), some (.ref 10)], [], pc_w pL6)
  refine pm_sB_ok hx hb dX2_init_0 rfl ?_
  refine pc_obj (own := RX2) hx hb hml hown hts (pm_in 108 (by decide +kernel) rfl) ⟨(Nat.le_of_ble_eq_true rfl), (Nat.le_of_ble_eq_true rfl)⟩ (Nat.le_of_ble_eq_true rfl) dX2_init_1 ?_
  refine pm_sB_ok hx hb dX2_init_4 rfl ?_
  refine pm_sB_ok hx hb dX2_init_5 rfl ?_
  refine pc_putF (ix := 9) (ci := 2) (k := 0) (t := 2) (o := 2) (L' := pL7) hx hb hown hts hK hin (fun q h => by cases h; rfl) (by decide +kernel) (fs := [.null, .int 0, .int 0, .int 0, .int 0, .int 0, .int 0]) rfl (Nat.le_of_ble_eq_true rfl) rfl rfl dX2_init_6 ?_
  exact pc_fin hx hb hr hlocks pc_ag.rf rfl rfl dX2_init_9
def pL8 : pc_Ls := [(20, (.inr (2, [.ref 10, .int 0, .int 0, .int 0, .int 0, .int 0, .int 0]))), (11, (.inl (2, 740, .inl (fun _ => 0)))), (10, (.inr (3, [.ref 11, .int 0]))), (0, (.inr (5, [.ref 10, .ref 20, .null, .null, .null, .null, .int 0])))]
def pL9 : pc_Ls := (40, (.inr (0, [.null, .int 0, .int 0, .int 0, .null, .null, .null, .null, .int 0, .int 0, .long 0, .long 0]))) :: pL8
def pL10 : pc_Ls := (41, (.inl (0, 8, .inl (fun _ => 0)))) :: pL9
def pL11 : pc_Ls := (41, (.inl (0, 8, .inl (fun _ => 0)))) :: (40, (.inr (0, [.ref 41, .int 0, .int 0, .int 0, .null, .null, .null, .null, .int 0, .int 0, .long 0, .long 0]))) :: pL8
def pL12 : pc_Ls := (45, (.inl (1, 8, .inr (.inl (fun _ => 0))))) :: pL11
def pL13 : pc_Ls := (45, (.inl (1, 8, .inr (.inl (fun _ => 0))))) :: (41, (.inl (0, 8, .inl (fun _ => 0)))) :: (40, (.inr (0, [.ref 41, .int 0, .int 0, .int 0, .ref 45, .null, .null, .null, .int 0, .int 0, .long 0, .long 0]))) :: pL8
def pL14 : pc_Ls := (46, (.inl (1, 8, .inr (.inl (fun _ => 0))))) :: pL13
def pL15 : pc_Ls := (46, (.inl (1, 8, .inr (.inl (fun _ => 0))))) :: (45, (.inl (1, 8, .inr (.inl (fun _ => 0))))) :: (41, (.inl (0, 8, .inl (fun _ => 0)))) :: (40, (.inr (0, [.ref 41, .int 0, .int 0, .int 0, .ref 45, .ref 46, .null, .null, .int 0, .int 0, .long 0, .long 0]))) :: pL8
def pL16 : pc_Ls := (47, (.inl (1, 8, .inr (.inl (fun _ => 0))))) :: pL15
def pL17 : pc_Ls := (47, (.inl (1, 8, .inr (.inl (fun _ => 0))))) :: (46, (.inl (1, 8, .inr (.inl (fun _ => 0))))) :: (45, (.inl (1, 8, .inr (.inl (fun _ => 0))))) :: (41, (.inl (0, 8, .inl (fun _ => 0)))) :: (40, (.inr (0, [.ref 41, .int 0, .int 0, .int 0, .ref 45, .ref 46, .ref 47, .null, .int 0, .int 0, .long 0, .long 0]))) :: pL8
def pL18 : pc_Ls := (48, (.inl (0, 8, .inl (fun _ => 0)))) :: pL17
def pL19 : pc_Ls := (48, (.inl (0, 8, .inl (fun _ => 0)))) :: (47, (.inl (1, 8, .inr (.inl (fun _ => 0))))) :: (46, (.inl (1, 8, .inr (.inl (fun _ => 0))))) :: (45, (.inl (1, 8, .inr (.inl (fun _ => 0))))) :: (41, (.inl (0, 8, .inl (fun _ => 0)))) :: (40, (.inr (0, [.ref 41, .int 0, .int 0, .int 0, .ref 45, .ref 46, .ref 47, .ref 48, .int 0, .int 0, .long 0, .long 0]))) :: pL8
set_option maxRecDepth 100000 in
set_option maxHeartbeats 4000000 in
theorem pk_d40 : pc_Met l ρ τ D sz aV yX0_init cX0_init 1 { frames := 1, cells := 5, slots := 40, locals := 20 } 5 40 41 [.ref 40] pL9 pL19 := by
  refine pc_open (o := 0) (k := 40) (by decide +kernel) rfl rfl (Nat.le_of_ble_eq_true rfl) rfl ?_
  intro p e s m args below meth c hx hb hml hown hts hr hlocks hin hK hsz
  show pm_K p l e _ s m args below meth c 0 0 _ ρ τ D sz (0, [some (.ref 40)], [], pc_w pL9)
  refine pm_sB_ok hx hb dX0_init_0 rfl ?_
  refine pc_obj (own := RX0) hx hb hml hown hts (pm_in 138 (by decide +kernel) rfl) ⟨(Nat.le_of_ble_eq_true rfl), (Nat.le_of_ble_eq_true rfl)⟩ (Nat.le_of_ble_eq_true rfl) dX0_init_1 ?_
  refine pm_sB_ok hx hb dX0_init_4 rfl ?_
  refine pm_sA_ok hx hb dX0_init_5 rfl ?_
  refine pc_newa (N := 41) (t := 0) (N' := 8) (ty := .int) (a0 := (8, .inl (fun _ => 0))) hx hb hts hK hsz rfl rfl (fun h => h) (pm_in 180 (by decide +kernel) rfl) (fun _ => rfl) (by decide +kernel) (by decide +kernel) (by decide +kernel) (by decide +kernel) (Nat.le_of_ble_eq_true rfl) rfl rfl (Nat.le_of_ble_eq_true rfl) (Nat.le_of_ble_eq_true rfl) dX0_init_7 ?_
  intro r1 a1
  have hK1 := a1.kn hK
  have hA1 : pc_ag 41 ρ r1 := (pc_ag.rf).trans a1 (Nat.le_of_ble_eq_true rfl)
  show pm_K p l e _ s m args below meth c _ _ _ r1 τ D sz (9, [some (.ref 40)], [.ref 41, .ref 40], pc_w pL10)
  refine pc_putF (ix := 9) (ci := 0) (k := 0) (t := 2) (o := 0) (L' := pL11) hx hb hown hts hK1 hin (fun q h => by cases h; rfl) (by decide +kernel) (fs := [.null, .int 0, .int 0, .int 0, .null, .null, .null, .null, .int 0, .int 0, .long 0, .long 0]) rfl (Nat.le_of_ble_eq_true rfl) rfl rfl dX0_init_9 ?_
  refine pm_sB_ok hx hb dX0_init_12 rfl ?_
  refine pm_sA_ok hx hb dX0_init_13 rfl ?_
  refine pc_newa (N := 45) (t := 1) (N' := 8) (ty := .long) (a0 := (8, .inr (.inl (fun _ => 0)))) hx hb hts hK1 hsz rfl rfl (fun h => h) (pm_in 181 (by decide +kernel) rfl) (fun _ => rfl) (by decide +kernel) (by decide +kernel) (by decide +kernel) (by decide +kernel) (Nat.le_of_ble_eq_true rfl) rfl rfl (Nat.le_of_ble_eq_true rfl) (Nat.le_of_ble_eq_true rfl) dX0_init_15 ?_
  intro r2 a2
  have hK2 := a2.kn hK1
  have hA2 : pc_ag 41 ρ r2 := (hA1).trans a2 (Nat.le_of_ble_eq_true rfl)
  show pm_K p l e _ s m args below meth c _ _ _ r2 τ D sz (17, [some (.ref 40)], [.ref 45, .ref 40], pc_w pL12)
  refine pc_putF (ix := 15) (ci := 0) (k := 4) (t := 2) (o := 0) (L' := pL13) hx hb hown hts hK2 hin (fun q h => by cases h; rfl) (by decide +kernel) (fs := [.ref 41, .int 0, .int 0, .int 0, .null, .null, .null, .null, .int 0, .int 0, .long 0, .long 0]) rfl (Nat.le_of_ble_eq_true rfl) rfl rfl dX0_init_17 ?_
  refine pm_sB_ok hx hb dX0_init_20 rfl ?_
  refine pm_sA_ok hx hb dX0_init_21 rfl ?_
  refine pc_newa (N := 46) (t := 1) (N' := 8) (ty := .long) (a0 := (8, .inr (.inl (fun _ => 0)))) hx hb hts hK2 hsz rfl rfl (fun h => h) (pm_in 181 (by decide +kernel) rfl) (fun _ => rfl) (by decide +kernel) (by decide +kernel) (by decide +kernel) (by decide +kernel) (Nat.le_of_ble_eq_true rfl) rfl rfl (Nat.le_of_ble_eq_true rfl) (Nat.le_of_ble_eq_true rfl) dX0_init_23 ?_
  intro r3 a3
  have hK3 := a3.kn hK2
  have hA3 : pc_ag 41 ρ r3 := (hA2).trans a3 (Nat.le_of_ble_eq_true rfl)
  show pm_K p l e _ s m args below meth c _ _ _ r3 τ D sz (25, [some (.ref 40)], [.ref 46, .ref 40], pc_w pL14)
  refine pc_putF (ix := 19) (ci := 0) (k := 5) (t := 2) (o := 0) (L' := pL15) hx hb hown hts hK3 hin (fun q h => by cases h; rfl) (by decide +kernel) (fs := [.ref 41, .int 0, .int 0, .int 0, .ref 45, .null, .null, .null, .int 0, .int 0, .long 0, .long 0]) rfl (Nat.le_of_ble_eq_true rfl) rfl rfl dX0_init_25 ?_
  refine pm_sB_ok hx hb dX0_init_28 rfl ?_
  refine pm_sA_ok hx hb dX0_init_29 rfl ?_
  refine pc_newa (N := 47) (t := 1) (N' := 8) (ty := .long) (a0 := (8, .inr (.inl (fun _ => 0)))) hx hb hts hK3 hsz rfl rfl (fun h => h) (pm_in 181 (by decide +kernel) rfl) (fun _ => rfl) (by decide +kernel) (by decide +kernel) (by decide +kernel) (by decide +kernel) (Nat.le_of_ble_eq_true rfl) rfl rfl (Nat.le_of_ble_eq_true rfl) (Nat.le_of_ble_eq_true rfl) dX0_init_31 ?_
  intro r4 a4
  have hK4 := a4.kn hK3
  have hA4 : pc_ag 41 ρ r4 := (hA3).trans a4 (Nat.le_of_ble_eq_true rfl)
  show pm_K p l e _ s m args below meth c _ _ _ r4 τ D sz (33, [some (.ref 40)], [.ref 47, .ref 40], pc_w pL16)
  refine pc_putF (ix := 22) (ci := 0) (k := 6) (t := 2) (o := 0) (L' := pL17) hx hb hown hts hK4 hin (fun q h => by cases h; rfl) (by decide +kernel) (fs := [.ref 41, .int 0, .int 0, .int 0, .ref 45, .ref 46, .null, .null, .int 0, .int 0, .long 0, .long 0]) rfl (Nat.le_of_ble_eq_true rfl) rfl rfl dX0_init_33 ?_
  refine pm_sB_ok hx hb dX0_init_36 rfl ?_
  refine pm_sA_ok hx hb dX0_init_37 rfl ?_
  refine pc_newa (N := 48) (t := 0) (N' := 8) (ty := .int) (a0 := (8, .inl (fun _ => 0))) hx hb hts hK4 hsz rfl rfl (fun h => h) (pm_in 180 (by decide +kernel) rfl) (fun _ => rfl) (by decide +kernel) (by decide +kernel) (by decide +kernel) (by decide +kernel) (Nat.le_of_ble_eq_true rfl) rfl rfl (Nat.le_of_ble_eq_true rfl) (Nat.le_of_ble_eq_true rfl) dX0_init_39 ?_
  intro r5 a5
  have hK5 := a5.kn hK4
  have hA5 : pc_ag 41 ρ r5 := (hA4).trans a5 (Nat.le_of_ble_eq_true rfl)
  show pm_K p l e _ s m args below meth c _ _ _ r5 τ D sz (41, [some (.ref 40)], [.ref 48, .ref 40], pc_w pL18)
  refine pc_putF (ix := 25) (ci := 0) (k := 7) (t := 2) (o := 0) (L' := pL19) hx hb hown hts hK5 hin (fun q h => by cases h; rfl) (by decide +kernel) (fs := [.ref 41, .int 0, .int 0, .int 0, .ref 45, .ref 46, .ref 47, .null, .int 0, .int 0, .long 0, .long 0]) rfl (Nat.le_of_ble_eq_true rfl) rfl rfl dX0_init_41 ?_
  exact pc_fin hx hb hr hlocks hA5 rfl rfl dX0_init_44
def pL20 : pc_Ls := [(48, (.inl (0, 8, .inl (fun _ => 0)))), (47, (.inl (1, 8, .inr (.inl (fun _ => 0))))), (46, (.inl (1, 8, .inr (.inl (fun _ => 0))))), (45, (.inl (1, 8, .inr (.inl (fun _ => 0))))), (41, (.inl (0, 8, .inl (fun _ => 0)))), (40, (.inr (0, [.ref 41, .int 0, .int 0, .int 0, .ref 45, .ref 46, .ref 47, .ref 48, .int 0, .int 0, .long 0, .long 0]))), (20, (.inr (2, [.ref 10, .int 0, .int 0, .int 0, .int 0, .int 0, .int 0]))), (11, (.inl (2, 740, .inl (fun _ => 0)))), (10, (.inr (3, [.ref 11, .int 0]))), (0, (.inr (5, [.ref 10, .ref 20, .ref 40, .null, .null, .null, .int 0])))]
def pL21 : pc_Ls := (60, (.inr (1, [.int 0, .null, .null, .null]))) :: pL20
def pL22 : pc_Ls := (62, (.inl (0, 10, .inl (fun _ => 0)))) :: pL21
def pL23 : pc_Ls := (62, (.inl (0, 10, .inl (fun _ => 0)))) :: (60, (.inr (1, [.int 0, .ref 62, .null, .null]))) :: pL20
def pL24 : pc_Ls := (63, (.inl (0, 10, .inl (fun _ => 0)))) :: pL23
def pL25 : pc_Ls := (63, (.inl (0, 10, .inl (fun _ => 0)))) :: (62, (.inl (0, 10, .inl (fun _ => 0)))) :: (60, (.inr (1, [.int 0, .ref 62, .ref 63, .null]))) :: pL20
def pL26 : pc_Ls := (64, (.inl (0, 10, .inl (fun _ => 0)))) :: pL25
def pL27 : pc_Ls := (64, (.inl (0, 10, .inl (fun _ => 0)))) :: (63, (.inl (0, 10, .inl (fun _ => 0)))) :: (62, (.inl (0, 10, .inl (fun _ => 0)))) :: (60, (.inr (1, [.int 0, .ref 62, .ref 63, .ref 64]))) :: pL20
def pL28 : pc_Ls := pL27
set_option maxRecDepth 100000 in
set_option maxHeartbeats 4000000 in
theorem pk_d60 : pc_Met l ρ τ D sz aV yX1_init cX1_init 1 { frames := 1, cells := 3, slots := 30, locals := 20 } 3 30 61 [.ref 60] pL21 pL28 := by
  refine pc_open (o := 1) (k := 60) (by decide +kernel) rfl rfl (Nat.le_of_ble_eq_true rfl) rfl ?_
  intro p e s m args below meth c hx hb hml hown hts hr hlocks hin hK hsz
  show pm_K p l e _ s m args below meth c 0 0 _ ρ τ D sz (0, [some (.ref 60)], [], pc_w pL21)
  refine pm_sB_ok hx hb dX1_init_0 rfl ?_
  refine pc_obj (own := RX1) hx hb hml hown hts (pm_in 187 (by decide +kernel) rfl) ⟨(Nat.le_of_ble_eq_true rfl), (Nat.le_of_ble_eq_true rfl)⟩ (Nat.le_of_ble_eq_true rfl) dX1_init_1 ?_
  refine pm_sB_ok hx hb dX1_init_4 rfl ?_
  refine pm_sA_ok hx hb dX1_init_5 rfl ?_
  refine pc_newa (N := 62) (t := 0) (N' := 10) (ty := .int) (a0 := (10, .inl (fun _ => 0))) hx hb hts hK hsz rfl rfl (fun h => h) (pm_in 180 (by decide +kernel) rfl) (fun _ => rfl) (by decide +kernel) (by decide +kernel) (by decide +kernel) (by decide +kernel) (Nat.le_of_ble_eq_true rfl) rfl rfl (Nat.le_of_ble_eq_true rfl) (Nat.le_of_ble_eq_true rfl) dX1_init_7 ?_
  intro r1 a1
  have hK1 := a1.kn hK
  have hA1 : pc_ag 61 ρ r1 := (pc_ag.rf).trans a1 (Nat.le_of_ble_eq_true rfl)
  show pm_K p l e _ s m args below meth c _ _ _ r1 τ D sz (9, [some (.ref 60)], [.ref 62, .ref 60], pc_w pL22)
  refine pc_putF (ix := 9) (ci := 1) (k := 1) (t := 2) (o := 1) (L' := pL23) hx hb hown hts hK1 hin (fun q h => by cases h; rfl) (by decide +kernel) (fs := [.int 0, .null, .null, .null]) rfl (Nat.le_of_ble_eq_true rfl) rfl rfl dX1_init_9 ?_
  refine pm_sB_ok hx hb dX1_init_12 rfl ?_
  refine pm_sA_ok hx hb dX1_init_13 rfl ?_
  refine pc_newa (N := 63) (t := 0) (N' := 10) (ty := .int) (a0 := (10, .inl (fun _ => 0))) hx hb hts hK1 hsz rfl rfl (fun h => h) (pm_in 180 (by decide +kernel) rfl) (fun _ => rfl) (by decide +kernel) (by decide +kernel) (by decide +kernel) (by decide +kernel) (Nat.le_of_ble_eq_true rfl) rfl rfl (Nat.le_of_ble_eq_true rfl) (Nat.le_of_ble_eq_true rfl) dX1_init_15 ?_
  intro r2 a2
  have hK2 := a2.kn hK1
  have hA2 : pc_ag 61 ρ r2 := (hA1).trans a2 (Nat.le_of_ble_eq_true rfl)
  show pm_K p l e _ s m args below meth c _ _ _ r2 τ D sz (17, [some (.ref 60)], [.ref 63, .ref 60], pc_w pL24)
  refine pc_putF (ix := 13) (ci := 1) (k := 2) (t := 2) (o := 1) (L' := pL25) hx hb hown hts hK2 hin (fun q h => by cases h; rfl) (by decide +kernel) (fs := [.int 0, .ref 62, .null, .null]) rfl (Nat.le_of_ble_eq_true rfl) rfl rfl dX1_init_17 ?_
  refine pm_sB_ok hx hb dX1_init_20 rfl ?_
  refine pm_sA_ok hx hb dX1_init_21 rfl ?_
  refine pc_newa (N := 64) (t := 0) (N' := 10) (ty := .int) (a0 := (10, .inl (fun _ => 0))) hx hb hts hK2 hsz rfl rfl (fun h => h) (pm_in 180 (by decide +kernel) rfl) (fun _ => rfl) (by decide +kernel) (by decide +kernel) (by decide +kernel) (by decide +kernel) (Nat.le_of_ble_eq_true rfl) rfl rfl (Nat.le_of_ble_eq_true rfl) (Nat.le_of_ble_eq_true rfl) dX1_init_23 ?_
  intro r3 a3
  have hK3 := a3.kn hK2
  have hA3 : pc_ag 61 ρ r3 := (hA2).trans a3 (Nat.le_of_ble_eq_true rfl)
  show pm_K p l e _ s m args below meth c _ _ _ r3 τ D sz (25, [some (.ref 60)], [.ref 64, .ref 60], pc_w pL26)
  refine pc_putF (ix := 16) (ci := 1) (k := 3) (t := 2) (o := 1) (L' := pL27) hx hb hown hts hK3 hin (fun q h => by cases h; rfl) (by decide +kernel) (fs := [.int 0, .ref 62, .ref 63, .null]) rfl (Nat.le_of_ble_eq_true rfl) rfl rfl dX1_init_25 ?_
  refine pm_sB_ok hx hb dX1_init_28 rfl ?_
  refine pm_sA_ok hx hb dX1_init_29 rfl ?_
  refine pc_put (ix := 19) (ci := 1) (k := 0) (t := 0) (o := 1) (L' := pL28) hx hb hown hts hK3 (by decide +kernel) (fs := [.int 0, .ref 62, .ref 63, .ref 64]) rfl (Nat.le_of_ble_eq_true rfl) rfl rfl dX1_init_30 ?_
  exact pc_fin hx hb hr hlocks hA3 rfl rfl dX1_init_33
def pL29 : pc_Ls := [(64, (.inl (0, 10, .inl (fun _ => 0)))), (63, (.inl (0, 10, .inl (fun _ => 0)))), (62, (.inl (0, 10, .inl (fun _ => 0)))), (60, (.inr (1, [.int 0, .ref 62, .ref 63, .ref 64]))), (48, (.inl (0, 8, .inl (fun _ => 0)))), (47, (.inl (1, 8, .inr (.inl (fun _ => 0))))), (46, (.inl (1, 8, .inr (.inl (fun _ => 0))))), (45, (.inl (1, 8, .inr (.inl (fun _ => 0))))), (41, (.inl (0, 8, .inl (fun _ => 0)))), (40, (.inr (0, [.ref 41, .int 0, .int 0, .int 0, .ref 45, .ref 46, .ref 47, .ref 48, .int 0, .int 0, .long 0, .long 0]))), (20, (.inr (2, [.ref 10, .int 0, .int 0, .int 0, .int 0, .int 0, .int 0]))), (11, (.inl (2, 740, .inl (fun _ => 0)))), (10, (.inr (3, [.ref 11, .int 0]))), (0, (.inr (5, [.ref 10, .ref 20, .ref 40, .ref 60, .null, .null, .int 0])))]
def pL30 : pc_Ls := (80, (.inr (4, [.int 0, .null, .null, .int 0, .null, .null, .null, .int 0, .null, .null, .null, .null]))) :: pL29
def pL31 : pc_Ls := (82, (.inl (0, 4, .inl (fun _ => 0)))) :: pL30
def pL32 : pc_Ls := (82, (.inl (0, 4, .inl (fun _ => 0)))) :: (80, (.inr (4, [.int 0, .ref 82, .null, .int 0, .null, .null, .null, .int 0, .null, .null, .null, .null]))) :: pL29
def pL33 : pc_Ls := (83, (.inl (0, 4, .inl (fun _ => 0)))) :: pL32
def pL34 : pc_Ls := (83, (.inl (0, 4, .inl (fun _ => 0)))) :: (82, (.inl (0, 4, .inl (fun _ => 0)))) :: (80, (.inr (4, [.int 0, .ref 82, .ref 83, .int 0, .null, .null, .null, .int 0, .null, .null, .null, .null]))) :: pL29
def pL35 : pc_Ls := (85, (.inl (0, 20, .inl (fun _ => 0)))) :: pL34
def pL36 : pc_Ls := (85, (.inl (0, 20, .inl (fun _ => 0)))) :: (83, (.inl (0, 4, .inl (fun _ => 0)))) :: (82, (.inl (0, 4, .inl (fun _ => 0)))) :: (80, (.inr (4, [.int 0, .ref 82, .ref 83, .int 0, .ref 85, .null, .null, .int 0, .null, .null, .null, .null]))) :: pL29
def pL37 : pc_Ls := (86, (.inl (0, 20, .inl (fun _ => 0)))) :: pL36
def pL38 : pc_Ls := (86, (.inl (0, 20, .inl (fun _ => 0)))) :: (85, (.inl (0, 20, .inl (fun _ => 0)))) :: (83, (.inl (0, 4, .inl (fun _ => 0)))) :: (82, (.inl (0, 4, .inl (fun _ => 0)))) :: (80, (.inr (4, [.int 0, .ref 82, .ref 83, .int 0, .ref 85, .ref 86, .null, .int 0, .null, .null, .null, .null]))) :: pL29
def pL39 : pc_Ls := (87, (.inl (0, 20, .inl (fun _ => 0)))) :: pL38
def pL40 : pc_Ls := (87, (.inl (0, 20, .inl (fun _ => 0)))) :: (86, (.inl (0, 20, .inl (fun _ => 0)))) :: (85, (.inl (0, 20, .inl (fun _ => 0)))) :: (83, (.inl (0, 4, .inl (fun _ => 0)))) :: (82, (.inl (0, 4, .inl (fun _ => 0)))) :: (80, (.inr (4, [.int 0, .ref 82, .ref 83, .int 0, .ref 85, .ref 86, .ref 87, .int 0, .null, .null, .null, .null]))) :: pL29
def pL41 : pc_Ls := (89, (.inl (0, 8, .inl (fun _ => 0)))) :: pL40
def pL42 : pc_Ls := (89, (.inl (0, 8, .inl (fun _ => 0)))) :: (87, (.inl (0, 20, .inl (fun _ => 0)))) :: (86, (.inl (0, 20, .inl (fun _ => 0)))) :: (85, (.inl (0, 20, .inl (fun _ => 0)))) :: (83, (.inl (0, 4, .inl (fun _ => 0)))) :: (82, (.inl (0, 4, .inl (fun _ => 0)))) :: (80, (.inr (4, [.int 0, .ref 82, .ref 83, .int 0, .ref 85, .ref 86, .ref 87, .int 0, .ref 89, .null, .null, .null]))) :: pL29
def pL43 : pc_Ls := (90, (.inl (0, 8, .inl (fun _ => 0)))) :: pL42
def pL44 : pc_Ls := (90, (.inl (0, 8, .inl (fun _ => 0)))) :: (89, (.inl (0, 8, .inl (fun _ => 0)))) :: (87, (.inl (0, 20, .inl (fun _ => 0)))) :: (86, (.inl (0, 20, .inl (fun _ => 0)))) :: (85, (.inl (0, 20, .inl (fun _ => 0)))) :: (83, (.inl (0, 4, .inl (fun _ => 0)))) :: (82, (.inl (0, 4, .inl (fun _ => 0)))) :: (80, (.inr (4, [.int 0, .ref 82, .ref 83, .int 0, .ref 85, .ref 86, .ref 87, .int 0, .ref 89, .ref 90, .null, .null]))) :: pL29
def pL45 : pc_Ls := (91, (.inl (0, 8, .inl (fun _ => 0)))) :: pL44
def pL46 : pc_Ls := (91, (.inl (0, 8, .inl (fun _ => 0)))) :: (90, (.inl (0, 8, .inl (fun _ => 0)))) :: (89, (.inl (0, 8, .inl (fun _ => 0)))) :: (87, (.inl (0, 20, .inl (fun _ => 0)))) :: (86, (.inl (0, 20, .inl (fun _ => 0)))) :: (85, (.inl (0, 20, .inl (fun _ => 0)))) :: (83, (.inl (0, 4, .inl (fun _ => 0)))) :: (82, (.inl (0, 4, .inl (fun _ => 0)))) :: (80, (.inr (4, [.int 0, .ref 82, .ref 83, .int 0, .ref 85, .ref 86, .ref 87, .int 0, .ref 89, .ref 90, .ref 91, .null]))) :: pL29
def pL47 : pc_Ls := (92, (.inl (0, 8, .inl (fun _ => 0)))) :: pL46
def pL48 : pc_Ls := (92, (.inl (0, 8, .inl (fun _ => 0)))) :: (91, (.inl (0, 8, .inl (fun _ => 0)))) :: (90, (.inl (0, 8, .inl (fun _ => 0)))) :: (89, (.inl (0, 8, .inl (fun _ => 0)))) :: (87, (.inl (0, 20, .inl (fun _ => 0)))) :: (86, (.inl (0, 20, .inl (fun _ => 0)))) :: (85, (.inl (0, 20, .inl (fun _ => 0)))) :: (83, (.inl (0, 4, .inl (fun _ => 0)))) :: (82, (.inl (0, 4, .inl (fun _ => 0)))) :: (80, (.inr (4, [.int 0, .ref 82, .ref 83, .int 0, .ref 85, .ref 86, .ref 87, .int 0, .ref 89, .ref 90, .ref 91, .ref 92]))) :: pL29
def pL49 : pc_Ls := (92, (.inl (0, 8, .inl (fun _ => 0)))) :: (91, (.inl (0, 8, .inl (fun _ => 0)))) :: (90, (.inl (0, 8, .inl (fun _ => 0)))) :: (89, (.inl (0, 8, .inl (fun _ => 0)))) :: (87, (.inl (0, 20, .inl (fun _ => 0)))) :: (86, (.inl (0, 20, .inl (fun _ => 0)))) :: (85, (.inl (0, 20, .inl (fun _ => 0)))) :: (83, (.inl (0, 4, .inl (ab_fill (fun _ => 0) 1 4)))) :: (82, (.inl (0, 4, .inl (ab_fill (fun _ => 0) 0 4)))) :: (80, (.inr (4, [.int 1, .ref 82, .ref 83, .int 0, .ref 85, .ref 86, .ref 87, .int 0, .ref 89, .ref 90, .ref 91, .ref 92]))) :: pL29
theorem pk_rs80 : pm_call 29 [.ref 80] (pc_w pL48) = some (none, pc_w pL49) := by
  have q := q_reset (w := pc_w pL48) (y := 80) (f0 := 0) (p1 := fun _ => 0) (p2 := fun _ => 0) (f3 := 0) (p4 := fun _ => 0) (p5 := fun _ => 0) (p6 := fun _ => 0) (f7 := 0) (p8 := fun _ => 0) (p9 := fun _ => 0) (p10 := fun _ => 0) (p11 := fun _ => 0)
  have e1 := ywe (w := pc_w pL48) (y := 80) (Y := fun _ _ => 0) ⟨rfl, rfl, rfl, rfl, rfl, rfl, rfl, rfl, rfl, rfl⟩
  rw [e1] at q
  rw [q]
  refine congrArg (fun z => some (none, z)) (pc_eq (L := pL48) (fun k => Nat.ble 80 k && Nat.ble k 92) (fun k hk => ywo ?_) (fun k hk => ?_) rfl)
  · rcases Bool.and_eq_false_iff.mp hk with h | h
    · exact Or.inl (Nat.lt_of_not_le (fun z => by rw [Nat.ble_eq_true_of_le z] at h; cases h))
    · exact Or.inr (Nat.lt_of_not_le (fun z => by rw [Nat.ble_eq_true_of_le z] at h; cases h))
  · have hk := Bool.and_eq_true _ _ ▸ hk
    have h1 := Nat.le_of_ble_eq_true hk.1
    have h2 := Nat.le_of_ble_eq_true hk.2
    rcases (show k = 80 ∨ k = 81 ∨ k = 82 ∨ k = 83 ∨ k = 84 ∨ k = 85 ∨ k = 86 ∨ k = 87 ∨ k = 88 ∨ k = 89 ∨ k = 90 ∨ k = 91 ∨ k = 92 by omega) with rfl | rfl | rfl | rfl | rfl | rfl | rfl | rfl | rfl | rfl | rfl | rfl | rfl <;> rfl
set_option maxRecDepth 100000 in
set_option maxHeartbeats 4000000 in
theorem pk_d80 : pc_Met l ρ τ D sz aV yX4_init cX4_init 1 { frames := 1, cells := 9, slots := 100, locals := 21 } 9 100 81 [.ref 80] pL30 pL49 := by
  refine pc_open (o := 4) (k := 80) (by decide +kernel) rfl rfl (Nat.le_of_ble_eq_true rfl) rfl ?_
  intro p e s m args below meth c hx hb hml hown hts hr hlocks hin hK hsz
  show pm_K p l e _ s m args below meth c 0 0 _ ρ τ D sz (0, [some (.ref 80)], [], pc_w pL30)
  refine pm_sB_ok hx hb dX4_init_0 rfl ?_
  refine pc_obj (own := RX4) hx hb hml hown hts (pm_in 207 (by decide +kernel) rfl) ⟨(Nat.le_of_ble_eq_true rfl), (Nat.le_of_ble_eq_true rfl)⟩ (Nat.le_of_ble_eq_true rfl) dX4_init_1 ?_
  refine pm_sB_ok hx hb dX4_init_4 rfl ?_
  refine pm_sA_ok hx hb dX4_init_5 rfl ?_
  refine pc_newa (N := 82) (t := 0) (N' := 4) (ty := .int) (a0 := (4, .inl (fun _ => 0))) hx hb hts hK hsz rfl rfl (fun h => h) (pm_in 180 (by decide +kernel) rfl) (fun _ => rfl) (by decide +kernel) (by decide +kernel) (by decide +kernel) (by decide +kernel) (Nat.le_of_ble_eq_true rfl) rfl rfl (Nat.le_of_ble_eq_true rfl) (Nat.le_of_ble_eq_true rfl) dX4_init_6 ?_
  intro r1 a1
  have hK1 := a1.kn hK
  have hA1 : pc_ag 81 ρ r1 := (pc_ag.rf).trans a1 (Nat.le_of_ble_eq_true rfl)
  show pm_K p l e _ s m args below meth c _ _ _ r1 τ D sz (8, [some (.ref 80)], [.ref 82, .ref 80], pc_w pL31)
  refine pc_putF (ix := 9) (ci := 4) (k := 1) (t := 2) (o := 4) (L' := pL32) hx hb hown hts hK1 hin (fun q h => by cases h; rfl) (by decide +kernel) (fs := [.int 0, .null, .null, .int 0, .null, .null, .null, .int 0, .null, .null, .null, .null]) rfl (Nat.le_of_ble_eq_true rfl) rfl rfl dX4_init_8 ?_
  refine pm_sB_ok hx hb dX4_init_11 rfl ?_
  refine pm_sA_ok hx hb dX4_init_12 rfl ?_
  refine pc_newa (N := 83) (t := 0) (N' := 4) (ty := .int) (a0 := (4, .inl (fun _ => 0))) hx hb hts hK1 hsz rfl rfl (fun h => h) (pm_in 180 (by decide +kernel) rfl) (fun _ => rfl) (by decide +kernel) (by decide +kernel) (by decide +kernel) (by decide +kernel) (Nat.le_of_ble_eq_true rfl) rfl rfl (Nat.le_of_ble_eq_true rfl) (Nat.le_of_ble_eq_true rfl) dX4_init_13 ?_
  intro r2 a2
  have hK2 := a2.kn hK1
  have hA2 : pc_ag 81 ρ r2 := (hA1).trans a2 (Nat.le_of_ble_eq_true rfl)
  show pm_K p l e _ s m args below meth c _ _ _ r2 τ D sz (15, [some (.ref 80)], [.ref 83, .ref 80], pc_w pL33)
  refine pc_putF (ix := 15) (ci := 4) (k := 2) (t := 2) (o := 4) (L' := pL34) hx hb hown hts hK2 hin (fun q h => by cases h; rfl) (by decide +kernel) (fs := [.int 0, .ref 82, .null, .int 0, .null, .null, .null, .int 0, .null, .null, .null, .null]) rfl (Nat.le_of_ble_eq_true rfl) rfl rfl dX4_init_15 ?_
  refine pm_sB_ok hx hb dX4_init_18 rfl ?_
  refine pm_sA_ok hx hb dX4_init_19 rfl ?_
  refine pc_newa (N := 85) (t := 0) (N' := 20) (ty := .int) (a0 := (20, .inl (fun _ => 0))) hx hb hts hK2 hsz rfl rfl (fun h => h) (pm_in 180 (by decide +kernel) rfl) (fun _ => rfl) (by decide +kernel) (by decide +kernel) (by decide +kernel) (by decide +kernel) (Nat.le_of_ble_eq_true rfl) rfl rfl (Nat.le_of_ble_eq_true rfl) (Nat.le_of_ble_eq_true rfl) dX4_init_21 ?_
  intro r3 a3
  have hK3 := a3.kn hK2
  have hA3 : pc_ag 81 ρ r3 := (hA2).trans a3 (Nat.le_of_ble_eq_true rfl)
  show pm_K p l e _ s m args below meth c _ _ _ r3 τ D sz (23, [some (.ref 80)], [.ref 85, .ref 80], pc_w pL35)
  refine pc_putF (ix := 18) (ci := 4) (k := 4) (t := 2) (o := 4) (L' := pL36) hx hb hown hts hK3 hin (fun q h => by cases h; rfl) (by decide +kernel) (fs := [.int 0, .ref 82, .ref 83, .int 0, .null, .null, .null, .int 0, .null, .null, .null, .null]) rfl (Nat.le_of_ble_eq_true rfl) rfl rfl dX4_init_23 ?_
  refine pm_sB_ok hx hb dX4_init_26 rfl ?_
  refine pm_sA_ok hx hb dX4_init_27 rfl ?_
  refine pc_newa (N := 86) (t := 0) (N' := 20) (ty := .int) (a0 := (20, .inl (fun _ => 0))) hx hb hts hK3 hsz rfl rfl (fun h => h) (pm_in 180 (by decide +kernel) rfl) (fun _ => rfl) (by decide +kernel) (by decide +kernel) (by decide +kernel) (by decide +kernel) (Nat.le_of_ble_eq_true rfl) rfl rfl (Nat.le_of_ble_eq_true rfl) (Nat.le_of_ble_eq_true rfl) dX4_init_29 ?_
  intro r4 a4
  have hK4 := a4.kn hK3
  have hA4 : pc_ag 81 ρ r4 := (hA3).trans a4 (Nat.le_of_ble_eq_true rfl)
  show pm_K p l e _ s m args below meth c _ _ _ r4 τ D sz (31, [some (.ref 80)], [.ref 86, .ref 80], pc_w pL37)
  refine pc_putF (ix := 21) (ci := 4) (k := 5) (t := 2) (o := 4) (L' := pL38) hx hb hown hts hK4 hin (fun q h => by cases h; rfl) (by decide +kernel) (fs := [.int 0, .ref 82, .ref 83, .int 0, .ref 85, .null, .null, .int 0, .null, .null, .null, .null]) rfl (Nat.le_of_ble_eq_true rfl) rfl rfl dX4_init_31 ?_
  refine pm_sB_ok hx hb dX4_init_34 rfl ?_
  refine pm_sA_ok hx hb dX4_init_35 rfl ?_
  refine pc_newa (N := 87) (t := 0) (N' := 20) (ty := .int) (a0 := (20, .inl (fun _ => 0))) hx hb hts hK4 hsz rfl rfl (fun h => h) (pm_in 180 (by decide +kernel) rfl) (fun _ => rfl) (by decide +kernel) (by decide +kernel) (by decide +kernel) (by decide +kernel) (Nat.le_of_ble_eq_true rfl) rfl rfl (Nat.le_of_ble_eq_true rfl) (Nat.le_of_ble_eq_true rfl) dX4_init_37 ?_
  intro r5 a5
  have hK5 := a5.kn hK4
  have hA5 : pc_ag 81 ρ r5 := (hA4).trans a5 (Nat.le_of_ble_eq_true rfl)
  show pm_K p l e _ s m args below meth c _ _ _ r5 τ D sz (39, [some (.ref 80)], [.ref 87, .ref 80], pc_w pL39)
  refine pc_putF (ix := 24) (ci := 4) (k := 6) (t := 2) (o := 4) (L' := pL40) hx hb hown hts hK5 hin (fun q h => by cases h; rfl) (by decide +kernel) (fs := [.int 0, .ref 82, .ref 83, .int 0, .ref 85, .ref 86, .null, .int 0, .null, .null, .null, .null]) rfl (Nat.le_of_ble_eq_true rfl) rfl rfl dX4_init_39 ?_
  refine pm_sB_ok hx hb dX4_init_42 rfl ?_
  refine pm_sA_ok hx hb dX4_init_43 rfl ?_
  refine pc_newa (N := 89) (t := 0) (N' := 8) (ty := .int) (a0 := (8, .inl (fun _ => 0))) hx hb hts hK5 hsz rfl rfl (fun h => h) (pm_in 180 (by decide +kernel) rfl) (fun _ => rfl) (by decide +kernel) (by decide +kernel) (by decide +kernel) (by decide +kernel) (Nat.le_of_ble_eq_true rfl) rfl rfl (Nat.le_of_ble_eq_true rfl) (Nat.le_of_ble_eq_true rfl) dX4_init_45 ?_
  intro r6 a6
  have hK6 := a6.kn hK5
  have hA6 : pc_ag 81 ρ r6 := (hA5).trans a6 (Nat.le_of_ble_eq_true rfl)
  show pm_K p l e _ s m args below meth c _ _ _ r6 τ D sz (47, [some (.ref 80)], [.ref 89, .ref 80], pc_w pL41)
  refine pc_putF (ix := 27) (ci := 4) (k := 8) (t := 2) (o := 4) (L' := pL42) hx hb hown hts hK6 hin (fun q h => by cases h; rfl) (by decide +kernel) (fs := [.int 0, .ref 82, .ref 83, .int 0, .ref 85, .ref 86, .ref 87, .int 0, .null, .null, .null, .null]) rfl (Nat.le_of_ble_eq_true rfl) rfl rfl dX4_init_47 ?_
  refine pm_sB_ok hx hb dX4_init_50 rfl ?_
  refine pm_sA_ok hx hb dX4_init_51 rfl ?_
  refine pc_newa (N := 90) (t := 0) (N' := 8) (ty := .int) (a0 := (8, .inl (fun _ => 0))) hx hb hts hK6 hsz rfl rfl (fun h => h) (pm_in 180 (by decide +kernel) rfl) (fun _ => rfl) (by decide +kernel) (by decide +kernel) (by decide +kernel) (by decide +kernel) (Nat.le_of_ble_eq_true rfl) rfl rfl (Nat.le_of_ble_eq_true rfl) (Nat.le_of_ble_eq_true rfl) dX4_init_53 ?_
  intro r7 a7
  have hK7 := a7.kn hK6
  have hA7 : pc_ag 81 ρ r7 := (hA6).trans a7 (Nat.le_of_ble_eq_true rfl)
  show pm_K p l e _ s m args below meth c _ _ _ r7 τ D sz (55, [some (.ref 80)], [.ref 90, .ref 80], pc_w pL43)
  refine pc_putF (ix := 30) (ci := 4) (k := 9) (t := 2) (o := 4) (L' := pL44) hx hb hown hts hK7 hin (fun q h => by cases h; rfl) (by decide +kernel) (fs := [.int 0, .ref 82, .ref 83, .int 0, .ref 85, .ref 86, .ref 87, .int 0, .ref 89, .null, .null, .null]) rfl (Nat.le_of_ble_eq_true rfl) rfl rfl dX4_init_55 ?_
  refine pm_sB_ok hx hb dX4_init_58 rfl ?_
  refine pm_sA_ok hx hb dX4_init_59 rfl ?_
  refine pc_newa (N := 91) (t := 0) (N' := 8) (ty := .int) (a0 := (8, .inl (fun _ => 0))) hx hb hts hK7 hsz rfl rfl (fun h => h) (pm_in 180 (by decide +kernel) rfl) (fun _ => rfl) (by decide +kernel) (by decide +kernel) (by decide +kernel) (by decide +kernel) (Nat.le_of_ble_eq_true rfl) rfl rfl (Nat.le_of_ble_eq_true rfl) (Nat.le_of_ble_eq_true rfl) dX4_init_61 ?_
  intro r8 a8
  have hK8 := a8.kn hK7
  have hA8 : pc_ag 81 ρ r8 := (hA7).trans a8 (Nat.le_of_ble_eq_true rfl)
  show pm_K p l e _ s m args below meth c _ _ _ r8 τ D sz (63, [some (.ref 80)], [.ref 91, .ref 80], pc_w pL45)
  refine pc_putF (ix := 33) (ci := 4) (k := 10) (t := 2) (o := 4) (L' := pL46) hx hb hown hts hK8 hin (fun q h => by cases h; rfl) (by decide +kernel) (fs := [.int 0, .ref 82, .ref 83, .int 0, .ref 85, .ref 86, .ref 87, .int 0, .ref 89, .ref 90, .null, .null]) rfl (Nat.le_of_ble_eq_true rfl) rfl rfl dX4_init_63 ?_
  refine pm_sB_ok hx hb dX4_init_66 rfl ?_
  refine pm_sA_ok hx hb dX4_init_67 rfl ?_
  refine pc_newa (N := 92) (t := 0) (N' := 8) (ty := .int) (a0 := (8, .inl (fun _ => 0))) hx hb hts hK8 hsz rfl rfl (fun h => h) (pm_in 180 (by decide +kernel) rfl) (fun _ => rfl) (by decide +kernel) (by decide +kernel) (by decide +kernel) (by decide +kernel) (Nat.le_of_ble_eq_true rfl) rfl rfl (Nat.le_of_ble_eq_true rfl) (Nat.le_of_ble_eq_true rfl) dX4_init_69 ?_
  intro r9 a9
  have hK9 := a9.kn hK8
  have hA9 : pc_ag 81 ρ r9 := (hA8).trans a9 (Nat.le_of_ble_eq_true rfl)
  show pm_K p l e _ s m args below meth c _ _ _ r9 τ D sz (71, [some (.ref 80)], [.ref 92, .ref 80], pc_w pL47)
  refine pc_putF (ix := 36) (ci := 4) (k := 11) (t := 2) (o := 4) (L' := pL48) hx hb hown hts hK9 hin (fun q h => by cases h; rfl) (by decide +kernel) (fs := [.int 0, .ref 82, .ref 83, .int 0, .ref 85, .ref 86, .ref 87, .int 0, .ref 89, .ref 90, .ref 91, .null]) rfl (Nat.le_of_ble_eq_true rfl) rfl rfl dX4_init_71 ?_
  refine pm_sB_ok hx hb dX4_init_74 rfl ?_
  refine pr_callV (own := RX4) (M := 29) (a := 80) (as := []) (rest := []) (r := none) (w' := pc_w pL49) hx hb hml hown hts hK9 (pm_contract (pm_ScOk_all l) r9 τ D sz aV pt_Y29 (Nat.le_of_ble_eq_true rfl) pk_rs80) pt_Y29 (pm_in 208 (by decide +kernel) rfl) (pm_in 209 (by decide +kernel) rfl) (pm_in 210 (by decide +kernel) rfl) ⟨RX4, TX4, 12, rfl, rfl⟩ ⟨_, rfl⟩ rfl ⟨(Nat.le_of_ble_eq_true rfl), (Nat.le_of_ble_eq_true rfl)⟩ ⟨(Nat.le_of_ble_eq_true rfl), (Nat.le_of_ble_eq_true rfl)⟩ (Nat.le_of_ble_eq_true rfl) rfl dX4_init_75 ?_
  exact pc_fin hx hb hr hlocks hA9 rfl rfl dX4_init_78
def pL50 : pc_Ls := [(92, (.inl (0, 8, .inl (fun _ => 0)))), (91, (.inl (0, 8, .inl (fun _ => 0)))), (90, (.inl (0, 8, .inl (fun _ => 0)))), (89, (.inl (0, 8, .inl (fun _ => 0)))), (87, (.inl (0, 20, .inl (fun _ => 0)))), (86, (.inl (0, 20, .inl (fun _ => 0)))), (85, (.inl (0, 20, .inl (fun _ => 0)))), (83, (.inl (0, 4, .inl (ab_fill (fun _ => 0) 1 4)))), (82, (.inl (0, 4, .inl (ab_fill (fun _ => 0) 0 4)))), (80, (.inr (4, [.int 1, .ref 82, .ref 83, .int 0, .ref 85, .ref 86, .ref 87, .int 0, .ref 89, .ref 90, .ref 91, .ref 92]))), (64, (.inl (0, 10, .inl (fun _ => 0)))), (63, (.inl (0, 10, .inl (fun _ => 0)))), (62, (.inl (0, 10, .inl (fun _ => 0)))), (60, (.inr (1, [.int 0, .ref 62, .ref 63, .ref 64]))), (48, (.inl (0, 8, .inl (fun _ => 0)))), (47, (.inl (1, 8, .inr (.inl (fun _ => 0))))), (46, (.inl (1, 8, .inr (.inl (fun _ => 0))))), (45, (.inl (1, 8, .inr (.inl (fun _ => 0))))), (41, (.inl (0, 8, .inl (fun _ => 0)))), (40, (.inr (0, [.ref 41, .int 0, .int 0, .int 0, .ref 45, .ref 46, .ref 47, .ref 48, .int 0, .int 0, .long 0, .long 0]))), (20, (.inr (2, [.ref 10, .int 0, .int 0, .int 0, .int 0, .int 0, .int 0]))), (11, (.inl (2, 740, .inl (fun _ => 0)))), (10, (.inr (3, [.ref 11, .int 0]))), (0, (.inr (5, [.ref 10, .ref 20, .ref 40, .ref 60, .ref 80, .null, .int 0])))]
def pL51 : pc_Ls := (100, (.inr (4, [.int 0, .null, .null, .int 0, .null, .null, .null, .int 0, .null, .null, .null, .null]))) :: pL50
def pL52 : pc_Ls := (102, (.inl (0, 4, .inl (fun _ => 0)))) :: pL51
def pL53 : pc_Ls := (102, (.inl (0, 4, .inl (fun _ => 0)))) :: (100, (.inr (4, [.int 0, .ref 102, .null, .int 0, .null, .null, .null, .int 0, .null, .null, .null, .null]))) :: pL50
def pL54 : pc_Ls := (103, (.inl (0, 4, .inl (fun _ => 0)))) :: pL53
def pL55 : pc_Ls := (103, (.inl (0, 4, .inl (fun _ => 0)))) :: (102, (.inl (0, 4, .inl (fun _ => 0)))) :: (100, (.inr (4, [.int 0, .ref 102, .ref 103, .int 0, .null, .null, .null, .int 0, .null, .null, .null, .null]))) :: pL50
def pL56 : pc_Ls := (105, (.inl (0, 20, .inl (fun _ => 0)))) :: pL55
def pL57 : pc_Ls := (105, (.inl (0, 20, .inl (fun _ => 0)))) :: (103, (.inl (0, 4, .inl (fun _ => 0)))) :: (102, (.inl (0, 4, .inl (fun _ => 0)))) :: (100, (.inr (4, [.int 0, .ref 102, .ref 103, .int 0, .ref 105, .null, .null, .int 0, .null, .null, .null, .null]))) :: pL50
def pL58 : pc_Ls := (106, (.inl (0, 20, .inl (fun _ => 0)))) :: pL57
def pL59 : pc_Ls := (106, (.inl (0, 20, .inl (fun _ => 0)))) :: (105, (.inl (0, 20, .inl (fun _ => 0)))) :: (103, (.inl (0, 4, .inl (fun _ => 0)))) :: (102, (.inl (0, 4, .inl (fun _ => 0)))) :: (100, (.inr (4, [.int 0, .ref 102, .ref 103, .int 0, .ref 105, .ref 106, .null, .int 0, .null, .null, .null, .null]))) :: pL50
def pL60 : pc_Ls := (107, (.inl (0, 20, .inl (fun _ => 0)))) :: pL59
def pL61 : pc_Ls := (107, (.inl (0, 20, .inl (fun _ => 0)))) :: (106, (.inl (0, 20, .inl (fun _ => 0)))) :: (105, (.inl (0, 20, .inl (fun _ => 0)))) :: (103, (.inl (0, 4, .inl (fun _ => 0)))) :: (102, (.inl (0, 4, .inl (fun _ => 0)))) :: (100, (.inr (4, [.int 0, .ref 102, .ref 103, .int 0, .ref 105, .ref 106, .ref 107, .int 0, .null, .null, .null, .null]))) :: pL50
def pL62 : pc_Ls := (109, (.inl (0, 8, .inl (fun _ => 0)))) :: pL61
def pL63 : pc_Ls := (109, (.inl (0, 8, .inl (fun _ => 0)))) :: (107, (.inl (0, 20, .inl (fun _ => 0)))) :: (106, (.inl (0, 20, .inl (fun _ => 0)))) :: (105, (.inl (0, 20, .inl (fun _ => 0)))) :: (103, (.inl (0, 4, .inl (fun _ => 0)))) :: (102, (.inl (0, 4, .inl (fun _ => 0)))) :: (100, (.inr (4, [.int 0, .ref 102, .ref 103, .int 0, .ref 105, .ref 106, .ref 107, .int 0, .ref 109, .null, .null, .null]))) :: pL50
def pL64 : pc_Ls := (110, (.inl (0, 8, .inl (fun _ => 0)))) :: pL63
def pL65 : pc_Ls := (110, (.inl (0, 8, .inl (fun _ => 0)))) :: (109, (.inl (0, 8, .inl (fun _ => 0)))) :: (107, (.inl (0, 20, .inl (fun _ => 0)))) :: (106, (.inl (0, 20, .inl (fun _ => 0)))) :: (105, (.inl (0, 20, .inl (fun _ => 0)))) :: (103, (.inl (0, 4, .inl (fun _ => 0)))) :: (102, (.inl (0, 4, .inl (fun _ => 0)))) :: (100, (.inr (4, [.int 0, .ref 102, .ref 103, .int 0, .ref 105, .ref 106, .ref 107, .int 0, .ref 109, .ref 110, .null, .null]))) :: pL50
def pL66 : pc_Ls := (111, (.inl (0, 8, .inl (fun _ => 0)))) :: pL65
def pL67 : pc_Ls := (111, (.inl (0, 8, .inl (fun _ => 0)))) :: (110, (.inl (0, 8, .inl (fun _ => 0)))) :: (109, (.inl (0, 8, .inl (fun _ => 0)))) :: (107, (.inl (0, 20, .inl (fun _ => 0)))) :: (106, (.inl (0, 20, .inl (fun _ => 0)))) :: (105, (.inl (0, 20, .inl (fun _ => 0)))) :: (103, (.inl (0, 4, .inl (fun _ => 0)))) :: (102, (.inl (0, 4, .inl (fun _ => 0)))) :: (100, (.inr (4, [.int 0, .ref 102, .ref 103, .int 0, .ref 105, .ref 106, .ref 107, .int 0, .ref 109, .ref 110, .ref 111, .null]))) :: pL50
def pL68 : pc_Ls := (112, (.inl (0, 8, .inl (fun _ => 0)))) :: pL67
def pL69 : pc_Ls := (112, (.inl (0, 8, .inl (fun _ => 0)))) :: (111, (.inl (0, 8, .inl (fun _ => 0)))) :: (110, (.inl (0, 8, .inl (fun _ => 0)))) :: (109, (.inl (0, 8, .inl (fun _ => 0)))) :: (107, (.inl (0, 20, .inl (fun _ => 0)))) :: (106, (.inl (0, 20, .inl (fun _ => 0)))) :: (105, (.inl (0, 20, .inl (fun _ => 0)))) :: (103, (.inl (0, 4, .inl (fun _ => 0)))) :: (102, (.inl (0, 4, .inl (fun _ => 0)))) :: (100, (.inr (4, [.int 0, .ref 102, .ref 103, .int 0, .ref 105, .ref 106, .ref 107, .int 0, .ref 109, .ref 110, .ref 111, .ref 112]))) :: pL50
def pL70 : pc_Ls := (112, (.inl (0, 8, .inl (fun _ => 0)))) :: (111, (.inl (0, 8, .inl (fun _ => 0)))) :: (110, (.inl (0, 8, .inl (fun _ => 0)))) :: (109, (.inl (0, 8, .inl (fun _ => 0)))) :: (107, (.inl (0, 20, .inl (fun _ => 0)))) :: (106, (.inl (0, 20, .inl (fun _ => 0)))) :: (105, (.inl (0, 20, .inl (fun _ => 0)))) :: (103, (.inl (0, 4, .inl (ab_fill (fun _ => 0) 1 4)))) :: (102, (.inl (0, 4, .inl (ab_fill (fun _ => 0) 0 4)))) :: (100, (.inr (4, [.int 1, .ref 102, .ref 103, .int 0, .ref 105, .ref 106, .ref 107, .int 0, .ref 109, .ref 110, .ref 111, .ref 112]))) :: pL50
theorem pk_rs100 : pm_call 29 [.ref 100] (pc_w pL69) = some (none, pc_w pL70) := by
  have q := q_reset (w := pc_w pL69) (y := 100) (f0 := 0) (p1 := fun _ => 0) (p2 := fun _ => 0) (f3 := 0) (p4 := fun _ => 0) (p5 := fun _ => 0) (p6 := fun _ => 0) (f7 := 0) (p8 := fun _ => 0) (p9 := fun _ => 0) (p10 := fun _ => 0) (p11 := fun _ => 0)
  have e1 := ywe (w := pc_w pL69) (y := 100) (Y := fun _ _ => 0) ⟨rfl, rfl, rfl, rfl, rfl, rfl, rfl, rfl, rfl, rfl⟩
  rw [e1] at q
  rw [q]
  refine congrArg (fun z => some (none, z)) (pc_eq (L := pL69) (fun k => Nat.ble 100 k && Nat.ble k 112) (fun k hk => ywo ?_) (fun k hk => ?_) rfl)
  · rcases Bool.and_eq_false_iff.mp hk with h | h
    · exact Or.inl (Nat.lt_of_not_le (fun z => by rw [Nat.ble_eq_true_of_le z] at h; cases h))
    · exact Or.inr (Nat.lt_of_not_le (fun z => by rw [Nat.ble_eq_true_of_le z] at h; cases h))
  · have hk := Bool.and_eq_true _ _ ▸ hk
    have h1 := Nat.le_of_ble_eq_true hk.1
    have h2 := Nat.le_of_ble_eq_true hk.2
    rcases (show k = 100 ∨ k = 101 ∨ k = 102 ∨ k = 103 ∨ k = 104 ∨ k = 105 ∨ k = 106 ∨ k = 107 ∨ k = 108 ∨ k = 109 ∨ k = 110 ∨ k = 111 ∨ k = 112 by omega) with rfl | rfl | rfl | rfl | rfl | rfl | rfl | rfl | rfl | rfl | rfl | rfl | rfl <;> rfl
set_option maxRecDepth 100000 in
set_option maxHeartbeats 4000000 in
theorem pk_d100 : pc_Met l ρ τ D sz aV yX4_init cX4_init 1 { frames := 1, cells := 9, slots := 100, locals := 21 } 9 100 101 [.ref 100] pL51 pL70 := by
  refine pc_open (o := 4) (k := 100) (by decide +kernel) rfl rfl (Nat.le_of_ble_eq_true rfl) rfl ?_
  intro p e s m args below meth c hx hb hml hown hts hr hlocks hin hK hsz
  show pm_K p l e _ s m args below meth c 0 0 _ ρ τ D sz (0, [some (.ref 100)], [], pc_w pL51)
  refine pm_sB_ok hx hb dX4_init_0 rfl ?_
  refine pc_obj (own := RX4) hx hb hml hown hts (pm_in 207 (by decide +kernel) rfl) ⟨(Nat.le_of_ble_eq_true rfl), (Nat.le_of_ble_eq_true rfl)⟩ (Nat.le_of_ble_eq_true rfl) dX4_init_1 ?_
  refine pm_sB_ok hx hb dX4_init_4 rfl ?_
  refine pm_sA_ok hx hb dX4_init_5 rfl ?_
  refine pc_newa (N := 102) (t := 0) (N' := 4) (ty := .int) (a0 := (4, .inl (fun _ => 0))) hx hb hts hK hsz rfl rfl (fun h => h) (pm_in 180 (by decide +kernel) rfl) (fun _ => rfl) (by decide +kernel) (by decide +kernel) (by decide +kernel) (by decide +kernel) (Nat.le_of_ble_eq_true rfl) rfl rfl (Nat.le_of_ble_eq_true rfl) (Nat.le_of_ble_eq_true rfl) dX4_init_6 ?_
  intro r1 a1
  have hK1 := a1.kn hK
  have hA1 : pc_ag 101 ρ r1 := (pc_ag.rf).trans a1 (Nat.le_of_ble_eq_true rfl)
  show pm_K p l e _ s m args below meth c _ _ _ r1 τ D sz (8, [some (.ref 100)], [.ref 102, .ref 100], pc_w pL52)
  refine pc_putF (ix := 9) (ci := 4) (k := 1) (t := 2) (o := 4) (L' := pL53) hx hb hown hts hK1 hin (fun q h => by cases h; rfl) (by decide +kernel) (fs := [.int 0, .null, .null, .int 0, .null, .null, .null, .int 0, .null, .null, .null, .null]) rfl (Nat.le_of_ble_eq_true rfl) rfl rfl dX4_init_8 ?_
  refine pm_sB_ok hx hb dX4_init_11 rfl ?_
  refine pm_sA_ok hx hb dX4_init_12 rfl ?_
  refine pc_newa (N := 103) (t := 0) (N' := 4) (ty := .int) (a0 := (4, .inl (fun _ => 0))) hx hb hts hK1 hsz rfl rfl (fun h => h) (pm_in 180 (by decide +kernel) rfl) (fun _ => rfl) (by decide +kernel) (by decide +kernel) (by decide +kernel) (by decide +kernel) (Nat.le_of_ble_eq_true rfl) rfl rfl (Nat.le_of_ble_eq_true rfl) (Nat.le_of_ble_eq_true rfl) dX4_init_13 ?_
  intro r2 a2
  have hK2 := a2.kn hK1
  have hA2 : pc_ag 101 ρ r2 := (hA1).trans a2 (Nat.le_of_ble_eq_true rfl)
  show pm_K p l e _ s m args below meth c _ _ _ r2 τ D sz (15, [some (.ref 100)], [.ref 103, .ref 100], pc_w pL54)
  refine pc_putF (ix := 15) (ci := 4) (k := 2) (t := 2) (o := 4) (L' := pL55) hx hb hown hts hK2 hin (fun q h => by cases h; rfl) (by decide +kernel) (fs := [.int 0, .ref 102, .null, .int 0, .null, .null, .null, .int 0, .null, .null, .null, .null]) rfl (Nat.le_of_ble_eq_true rfl) rfl rfl dX4_init_15 ?_
  refine pm_sB_ok hx hb dX4_init_18 rfl ?_
  refine pm_sA_ok hx hb dX4_init_19 rfl ?_
  refine pc_newa (N := 105) (t := 0) (N' := 20) (ty := .int) (a0 := (20, .inl (fun _ => 0))) hx hb hts hK2 hsz rfl rfl (fun h => h) (pm_in 180 (by decide +kernel) rfl) (fun _ => rfl) (by decide +kernel) (by decide +kernel) (by decide +kernel) (by decide +kernel) (Nat.le_of_ble_eq_true rfl) rfl rfl (Nat.le_of_ble_eq_true rfl) (Nat.le_of_ble_eq_true rfl) dX4_init_21 ?_
  intro r3 a3
  have hK3 := a3.kn hK2
  have hA3 : pc_ag 101 ρ r3 := (hA2).trans a3 (Nat.le_of_ble_eq_true rfl)
  show pm_K p l e _ s m args below meth c _ _ _ r3 τ D sz (23, [some (.ref 100)], [.ref 105, .ref 100], pc_w pL56)
  refine pc_putF (ix := 18) (ci := 4) (k := 4) (t := 2) (o := 4) (L' := pL57) hx hb hown hts hK3 hin (fun q h => by cases h; rfl) (by decide +kernel) (fs := [.int 0, .ref 102, .ref 103, .int 0, .null, .null, .null, .int 0, .null, .null, .null, .null]) rfl (Nat.le_of_ble_eq_true rfl) rfl rfl dX4_init_23 ?_
  refine pm_sB_ok hx hb dX4_init_26 rfl ?_
  refine pm_sA_ok hx hb dX4_init_27 rfl ?_
  refine pc_newa (N := 106) (t := 0) (N' := 20) (ty := .int) (a0 := (20, .inl (fun _ => 0))) hx hb hts hK3 hsz rfl rfl (fun h => h) (pm_in 180 (by decide +kernel) rfl) (fun _ => rfl) (by decide +kernel) (by decide +kernel) (by decide +kernel) (by decide +kernel) (Nat.le_of_ble_eq_true rfl) rfl rfl (Nat.le_of_ble_eq_true rfl) (Nat.le_of_ble_eq_true rfl) dX4_init_29 ?_
  intro r4 a4
  have hK4 := a4.kn hK3
  have hA4 : pc_ag 101 ρ r4 := (hA3).trans a4 (Nat.le_of_ble_eq_true rfl)
  show pm_K p l e _ s m args below meth c _ _ _ r4 τ D sz (31, [some (.ref 100)], [.ref 106, .ref 100], pc_w pL58)
  refine pc_putF (ix := 21) (ci := 4) (k := 5) (t := 2) (o := 4) (L' := pL59) hx hb hown hts hK4 hin (fun q h => by cases h; rfl) (by decide +kernel) (fs := [.int 0, .ref 102, .ref 103, .int 0, .ref 105, .null, .null, .int 0, .null, .null, .null, .null]) rfl (Nat.le_of_ble_eq_true rfl) rfl rfl dX4_init_31 ?_
  refine pm_sB_ok hx hb dX4_init_34 rfl ?_
  refine pm_sA_ok hx hb dX4_init_35 rfl ?_
  refine pc_newa (N := 107) (t := 0) (N' := 20) (ty := .int) (a0 := (20, .inl (fun _ => 0))) hx hb hts hK4 hsz rfl rfl (fun h => h) (pm_in 180 (by decide +kernel) rfl) (fun _ => rfl) (by decide +kernel) (by decide +kernel) (by decide +kernel) (by decide +kernel) (Nat.le_of_ble_eq_true rfl) rfl rfl (Nat.le_of_ble_eq_true rfl) (Nat.le_of_ble_eq_true rfl) dX4_init_37 ?_
  intro r5 a5
  have hK5 := a5.kn hK4
  have hA5 : pc_ag 101 ρ r5 := (hA4).trans a5 (Nat.le_of_ble_eq_true rfl)
  show pm_K p l e _ s m args below meth c _ _ _ r5 τ D sz (39, [some (.ref 100)], [.ref 107, .ref 100], pc_w pL60)
  refine pc_putF (ix := 24) (ci := 4) (k := 6) (t := 2) (o := 4) (L' := pL61) hx hb hown hts hK5 hin (fun q h => by cases h; rfl) (by decide +kernel) (fs := [.int 0, .ref 102, .ref 103, .int 0, .ref 105, .ref 106, .null, .int 0, .null, .null, .null, .null]) rfl (Nat.le_of_ble_eq_true rfl) rfl rfl dX4_init_39 ?_
  refine pm_sB_ok hx hb dX4_init_42 rfl ?_
  refine pm_sA_ok hx hb dX4_init_43 rfl ?_
  refine pc_newa (N := 109) (t := 0) (N' := 8) (ty := .int) (a0 := (8, .inl (fun _ => 0))) hx hb hts hK5 hsz rfl rfl (fun h => h) (pm_in 180 (by decide +kernel) rfl) (fun _ => rfl) (by decide +kernel) (by decide +kernel) (by decide +kernel) (by decide +kernel) (Nat.le_of_ble_eq_true rfl) rfl rfl (Nat.le_of_ble_eq_true rfl) (Nat.le_of_ble_eq_true rfl) dX4_init_45 ?_
  intro r6 a6
  have hK6 := a6.kn hK5
  have hA6 : pc_ag 101 ρ r6 := (hA5).trans a6 (Nat.le_of_ble_eq_true rfl)
  show pm_K p l e _ s m args below meth c _ _ _ r6 τ D sz (47, [some (.ref 100)], [.ref 109, .ref 100], pc_w pL62)
  refine pc_putF (ix := 27) (ci := 4) (k := 8) (t := 2) (o := 4) (L' := pL63) hx hb hown hts hK6 hin (fun q h => by cases h; rfl) (by decide +kernel) (fs := [.int 0, .ref 102, .ref 103, .int 0, .ref 105, .ref 106, .ref 107, .int 0, .null, .null, .null, .null]) rfl (Nat.le_of_ble_eq_true rfl) rfl rfl dX4_init_47 ?_
  refine pm_sB_ok hx hb dX4_init_50 rfl ?_
  refine pm_sA_ok hx hb dX4_init_51 rfl ?_
  refine pc_newa (N := 110) (t := 0) (N' := 8) (ty := .int) (a0 := (8, .inl (fun _ => 0))) hx hb hts hK6 hsz rfl rfl (fun h => h) (pm_in 180 (by decide +kernel) rfl) (fun _ => rfl) (by decide +kernel) (by decide +kernel) (by decide +kernel) (by decide +kernel) (Nat.le_of_ble_eq_true rfl) rfl rfl (Nat.le_of_ble_eq_true rfl) (Nat.le_of_ble_eq_true rfl) dX4_init_53 ?_
  intro r7 a7
  have hK7 := a7.kn hK6
  have hA7 : pc_ag 101 ρ r7 := (hA6).trans a7 (Nat.le_of_ble_eq_true rfl)
  show pm_K p l e _ s m args below meth c _ _ _ r7 τ D sz (55, [some (.ref 100)], [.ref 110, .ref 100], pc_w pL64)
  refine pc_putF (ix := 30) (ci := 4) (k := 9) (t := 2) (o := 4) (L' := pL65) hx hb hown hts hK7 hin (fun q h => by cases h; rfl) (by decide +kernel) (fs := [.int 0, .ref 102, .ref 103, .int 0, .ref 105, .ref 106, .ref 107, .int 0, .ref 109, .null, .null, .null]) rfl (Nat.le_of_ble_eq_true rfl) rfl rfl dX4_init_55 ?_
  refine pm_sB_ok hx hb dX4_init_58 rfl ?_
  refine pm_sA_ok hx hb dX4_init_59 rfl ?_
  refine pc_newa (N := 111) (t := 0) (N' := 8) (ty := .int) (a0 := (8, .inl (fun _ => 0))) hx hb hts hK7 hsz rfl rfl (fun h => h) (pm_in 180 (by decide +kernel) rfl) (fun _ => rfl) (by decide +kernel) (by decide +kernel) (by decide +kernel) (by decide +kernel) (Nat.le_of_ble_eq_true rfl) rfl rfl (Nat.le_of_ble_eq_true rfl) (Nat.le_of_ble_eq_true rfl) dX4_init_61 ?_
  intro r8 a8
  have hK8 := a8.kn hK7
  have hA8 : pc_ag 101 ρ r8 := (hA7).trans a8 (Nat.le_of_ble_eq_true rfl)
  show pm_K p l e _ s m args below meth c _ _ _ r8 τ D sz (63, [some (.ref 100)], [.ref 111, .ref 100], pc_w pL66)
  refine pc_putF (ix := 33) (ci := 4) (k := 10) (t := 2) (o := 4) (L' := pL67) hx hb hown hts hK8 hin (fun q h => by cases h; rfl) (by decide +kernel) (fs := [.int 0, .ref 102, .ref 103, .int 0, .ref 105, .ref 106, .ref 107, .int 0, .ref 109, .ref 110, .null, .null]) rfl (Nat.le_of_ble_eq_true rfl) rfl rfl dX4_init_63 ?_
  refine pm_sB_ok hx hb dX4_init_66 rfl ?_
  refine pm_sA_ok hx hb dX4_init_67 rfl ?_
  refine pc_newa (N := 112) (t := 0) (N' := 8) (ty := .int) (a0 := (8, .inl (fun _ => 0))) hx hb hts hK8 hsz rfl rfl (fun h => h) (pm_in 180 (by decide +kernel) rfl) (fun _ => rfl) (by decide +kernel) (by decide +kernel) (by decide +kernel) (by decide +kernel) (Nat.le_of_ble_eq_true rfl) rfl rfl (Nat.le_of_ble_eq_true rfl) (Nat.le_of_ble_eq_true rfl) dX4_init_69 ?_
  intro r9 a9
  have hK9 := a9.kn hK8
  have hA9 : pc_ag 101 ρ r9 := (hA8).trans a9 (Nat.le_of_ble_eq_true rfl)
  show pm_K p l e _ s m args below meth c _ _ _ r9 τ D sz (71, [some (.ref 100)], [.ref 112, .ref 100], pc_w pL68)
  refine pc_putF (ix := 36) (ci := 4) (k := 11) (t := 2) (o := 4) (L' := pL69) hx hb hown hts hK9 hin (fun q h => by cases h; rfl) (by decide +kernel) (fs := [.int 0, .ref 102, .ref 103, .int 0, .ref 105, .ref 106, .ref 107, .int 0, .ref 109, .ref 110, .ref 111, .null]) rfl (Nat.le_of_ble_eq_true rfl) rfl rfl dX4_init_71 ?_
  refine pm_sB_ok hx hb dX4_init_74 rfl ?_
  refine pr_callV (own := RX4) (M := 29) (a := 100) (as := []) (rest := []) (r := none) (w' := pc_w pL70) hx hb hml hown hts hK9 (pm_contract (pm_ScOk_all l) r9 τ D sz aV pt_Y29 (Nat.le_of_ble_eq_true rfl) pk_rs100) pt_Y29 (pm_in 208 (by decide +kernel) rfl) (pm_in 209 (by decide +kernel) rfl) (pm_in 210 (by decide +kernel) rfl) ⟨RX4, TX4, 12, rfl, rfl⟩ ⟨_, rfl⟩ rfl ⟨(Nat.le_of_ble_eq_true rfl), (Nat.le_of_ble_eq_true rfl)⟩ ⟨(Nat.le_of_ble_eq_true rfl), (Nat.le_of_ble_eq_true rfl)⟩ (Nat.le_of_ble_eq_true rfl) rfl dX4_init_75 ?_
  exact pc_fin hx hb hr hlocks hA9 rfl rfl dX4_init_78
def pL71 : pc_Ls := [(112, (.inl (0, 8, .inl (fun _ => 0)))), (111, (.inl (0, 8, .inl (fun _ => 0)))), (110, (.inl (0, 8, .inl (fun _ => 0)))), (109, (.inl (0, 8, .inl (fun _ => 0)))), (107, (.inl (0, 20, .inl (fun _ => 0)))), (106, (.inl (0, 20, .inl (fun _ => 0)))), (105, (.inl (0, 20, .inl (fun _ => 0)))), (103, (.inl (0, 4, .inl (ab_fill (fun _ => 0) 1 4)))), (102, (.inl (0, 4, .inl (ab_fill (fun _ => 0) 0 4)))), (100, (.inr (4, [.int 1, .ref 102, .ref 103, .int 0, .ref 105, .ref 106, .ref 107, .int 0, .ref 109, .ref 110, .ref 111, .ref 112]))), (92, (.inl (0, 8, .inl (fun _ => 0)))), (91, (.inl (0, 8, .inl (fun _ => 0)))), (90, (.inl (0, 8, .inl (fun _ => 0)))), (89, (.inl (0, 8, .inl (fun _ => 0)))), (87, (.inl (0, 20, .inl (fun _ => 0)))), (86, (.inl (0, 20, .inl (fun _ => 0)))), (85, (.inl (0, 20, .inl (fun _ => 0)))), (83, (.inl (0, 4, .inl (ab_fill (fun _ => 0) 1 4)))), (82, (.inl (0, 4, .inl (ab_fill (fun _ => 0) 0 4)))), (80, (.inr (4, [.int 1, .ref 82, .ref 83, .int 0, .ref 85, .ref 86, .ref 87, .int 0, .ref 89, .ref 90, .ref 91, .ref 92]))), (64, (.inl (0, 10, .inl (fun _ => 0)))), (63, (.inl (0, 10, .inl (fun _ => 0)))), (62, (.inl (0, 10, .inl (fun _ => 0)))), (60, (.inr (1, [.int 0, .ref 62, .ref 63, .ref 64]))), (48, (.inl (0, 8, .inl (fun _ => 0)))), (47, (.inl (1, 8, .inr (.inl (fun _ => 0))))), (46, (.inl (1, 8, .inr (.inl (fun _ => 0))))), (45, (.inl (1, 8, .inr (.inl (fun _ => 0))))), (41, (.inl (0, 8, .inl (fun _ => 0)))), (40, (.inr (0, [.ref 41, .int 0, .int 0, .int 0, .ref 45, .ref 46, .ref 47, .ref 48, .int 0, .int 0, .long 0, .long 0]))), (20, (.inr (2, [.ref 10, .int 0, .int 0, .int 0, .int 0, .int 0, .int 0]))), (11, (.inl (2, 740, .inl (fun _ => 0)))), (10, (.inr (3, [.ref 11, .int 0]))), (0, (.inr (5, [.ref 10, .ref 20, .ref 40, .ref 60, .ref 80, .ref 100, .int 0])))]
def pL72 : pc_Ls := pL71
set_option maxRecDepth 100000 in
set_option maxHeartbeats 4000000 in
theorem pk_d : pc_Met l ρ τ D sz aV yX5_init cX5_init 1 { frames := 2, cells := 33, slots := 1059, locals := 41 } 33 1059 1 [.ref 0] pL0 pL72 := by
  refine pc_open (o := 5) (k := 0) (by decide +kernel) rfl rfl (Nat.le_of_ble_eq_true rfl) rfl ?_
  intro p e s m args below meth c hx hb hml hown hts hr hlocks hin hK hsz
  show pm_K p l e _ s m args below meth c 0 0 _ ρ τ D sz (0, [some (.ref 0)], [], pc_w pL0)
  refine pm_sB_ok hx hb dX5_init_0 rfl ?_
  refine pc_obj (own := RX5) hx hb hml hown hts (pm_in 83 (by decide +kernel) rfl) ⟨(Nat.le_of_ble_eq_true rfl), (Nat.le_of_ble_eq_true rfl)⟩ (Nat.le_of_ble_eq_true rfl) dX5_init_1 ?_
  refine pm_sB_ok hx hb dX5_init_4 rfl ?_
  refine pc_new (N := 10) (own := RX5) (fs := [.null, .int 0]) hx hb hown hts hK hsz pt_C3 (pm_in 86 (by decide +kernel) rfl) (pm_in 87 (by decide +kernel) rfl) (pm_in 63 (by decide +kernel) rfl) (fun j hj => by rcases (show j = 0 ∨ j = 1 by omega) with rfl | rfl <;> rfl) (fun _ => rfl) (by decide +kernel) (Nat.le_of_ble_eq_true rfl) rfl rfl (Nat.le_of_ble_eq_true rfl) (Nat.le_of_ble_eq_true rfl) dX5_init_5 ?_
  intro r1 a1
  have hK1 := a1.kn hK
  have hA1 : pc_ag 1 ρ r1 := (pc_ag.rf).trans a1 (Nat.le_of_ble_eq_true rfl)
  show pm_K p l e _ s m args below meth c _ _ _ r1 τ D sz (8, [some (.ref 0)], [.ref 10, .ref 0], pc_w pL1)
  refine pm_sF_ok hx hb dX5_init_8 rfl ?_
  refine pc_call (own := RX5) (as := []) (rest := [.ref 10, .ref 0]) hx hb hml hown hts hK1 (pk_d10 (ρ := r1)) (pm_in 90 (by decide +kernel) rfl) (pm_in 88 (by decide +kernel) rfl) (pm_in 63 (by decide +kernel) rfl) (pm_in 89 (by decide +kernel) rfl) rfl (by decide +kernel) rfl ⟨rfl, rfl⟩ ⟨(Nat.le_of_ble_eq_true rfl), (Nat.le_of_ble_eq_true rfl)⟩ ⟨(Nat.le_of_ble_eq_true rfl), (Nat.le_of_ble_eq_true rfl)⟩ rfl rfl (Nat.le_of_ble_eq_true rfl) rfl dX5_init_9 ?_
  intro r2 a2
  have hK2 := a2.kn hK1
  have hA2 : pc_ag 1 ρ r2 := (hA1).trans a2 (Nat.le_of_ble_eq_true rfl)
  show pm_K p l e _ s m args below meth c _ _ _ r2 τ D sz (12, [some (.ref 0)], [.ref 10, .ref 0], pc_w pL4)
  refine pc_putF (ix := 12) (ci := 5) (k := 0) (t := 2) (o := 5) (L' := pL5) hx hb hown hts hK2 hin (fun q h => by cases h; rfl) (by decide +kernel) (fs := [.null, .null, .null, .null, .null, .null, .int 0]) rfl (Nat.le_of_ble_eq_true rfl) rfl rfl dX5_init_12 ?_
  refine pm_sB_ok hx hb dX5_init_15 rfl ?_
  refine pc_new (N := 20) (own := RX5) (fs := [.null, .int 0, .int 0, .int 0, .int 0, .int 0, .int 0]) hx hb hown hts hK2 hsz pt_C2 (pm_in 103 (by decide +kernel) rfl) (pm_in 104 (by decide +kernel) rfl) (pm_in 64 (by decide +kernel) rfl) (fun j hj => by rcases (show j = 0 ∨ j = 1 ∨ j = 2 ∨ j = 3 ∨ j = 4 ∨ j = 5 ∨ j = 6 by omega) with rfl | rfl | rfl | rfl | rfl | rfl | rfl <;> rfl) (fun _ => rfl) (by decide +kernel) (Nat.le_of_ble_eq_true rfl) rfl rfl (Nat.le_of_ble_eq_true rfl) (Nat.le_of_ble_eq_true rfl) dX5_init_16 ?_
  intro r3 a3
  have hK3 := a3.kn hK2
  have hA3 : pc_ag 1 ρ r3 := (hA2).trans a3 (Nat.le_of_ble_eq_true rfl)
  show pm_K p l e _ s m args below meth c _ _ _ r3 τ D sz (19, [some (.ref 0)], [.ref 20, .ref 0], pc_w pL6)
  refine pm_sF_ok hx hb dX5_init_19 rfl ?_
  refine pm_sB_ok hx hb dX5_init_20 rfl ?_
  refine pm_get (ix := 12) (ci := 5) (k := 0) (t := 2) (fin := true) (o := 5) (v := .ref 10) hx hb hown hts hK3 (by decide +kernel) rfl dX5_init_21 ?_
  refine pc_call (own := RX5) (as := [.ref 10]) (rest := [.ref 20, .ref 0]) hx hb hml hown hts hK3 (pk_d20 (ρ := r3)) (pm_in 107 (by decide +kernel) rfl) (pm_in 105 (by decide +kernel) rfl) (pm_in 64 (by decide +kernel) rfl) (pm_in 106 (by decide +kernel) rfl) rfl (by decide +kernel) rfl ⟨rfl, rfl⟩ ⟨(Nat.le_of_ble_eq_true rfl), (Nat.le_of_ble_eq_true rfl)⟩ ⟨(Nat.le_of_ble_eq_true rfl), (Nat.le_of_ble_eq_true rfl)⟩ rfl rfl (Nat.le_of_ble_eq_true rfl) rfl dX5_init_24 ?_
  intro r4 a4
  have hK4 := a4.kn hK3
  have hA4 : pc_ag 1 ρ r4 := (hA3).trans a4 (Nat.le_of_ble_eq_true rfl)
  show pm_K p l e _ s m args below meth c _ _ _ r4 τ D sz (27, [some (.ref 0)], [.ref 20, .ref 0], pc_w pL7)
  refine pc_putF (ix := 21) (ci := 5) (k := 1) (t := 2) (o := 5) (L' := pL8) hx hb hown hts hK4 hin (fun q h => by cases h; rfl) (by decide +kernel) (fs := [.ref 10, .null, .null, .null, .null, .null, .int 0]) rfl (Nat.le_of_ble_eq_true rfl) rfl rfl dX5_init_27 ?_
  refine pm_sB_ok hx hb dX5_init_30 rfl ?_
  refine pc_new (N := 40) (own := RX5) (fs := [.null, .int 0, .int 0, .int 0, .null, .null, .null, .null, .int 0, .int 0, .long 0, .long 0]) hx hb hown hts hK4 hsz pt_C0 (pm_in 133 (by decide +kernel) rfl) (pm_in 134 (by decide +kernel) rfl) (pm_in 65 (by decide +kernel) rfl) (fun j hj => by rcases (show j = 0 ∨ j = 1 ∨ j = 2 ∨ j = 3 ∨ j = 4 ∨ j = 5 ∨ j = 6 ∨ j = 7 ∨ j = 8 ∨ j = 9 ∨ j = 10 ∨ j = 11 by omega) with rfl | rfl | rfl | rfl | rfl | rfl | rfl | rfl | rfl | rfl | rfl | rfl <;> rfl) (fun _ => rfl) (by decide +kernel) (Nat.le_of_ble_eq_true rfl) rfl rfl (Nat.le_of_ble_eq_true rfl) (Nat.le_of_ble_eq_true rfl) dX5_init_31 ?_
  intro r5 a5
  have hK5 := a5.kn hK4
  have hA5 : pc_ag 1 ρ r5 := (hA4).trans a5 (Nat.le_of_ble_eq_true rfl)
  show pm_K p l e _ s m args below meth c _ _ _ r5 τ D sz (34, [some (.ref 0)], [.ref 40, .ref 0], pc_w pL9)
  refine pm_sF_ok hx hb dX5_init_34 rfl ?_
  refine pc_call (own := RX5) (as := []) (rest := [.ref 40, .ref 0]) hx hb hml hown hts hK5 (pk_d40 (ρ := r5)) (pm_in 137 (by decide +kernel) rfl) (pm_in 135 (by decide +kernel) rfl) (pm_in 65 (by decide +kernel) rfl) (pm_in 136 (by decide +kernel) rfl) rfl (by decide +kernel) rfl ⟨rfl, rfl⟩ ⟨(Nat.le_of_ble_eq_true rfl), (Nat.le_of_ble_eq_true rfl)⟩ ⟨(Nat.le_of_ble_eq_true rfl), (Nat.le_of_ble_eq_true rfl)⟩ rfl rfl (Nat.le_of_ble_eq_true rfl) rfl dX5_init_35 ?_
  intro r6 a6
  have hK6 := a6.kn hK5
  have hA6 : pc_ag 1 ρ r6 := (hA5).trans a6 (Nat.le_of_ble_eq_true rfl)
  show pm_K p l e _ s m args below meth c _ _ _ r6 τ D sz (38, [some (.ref 0)], [.ref 40, .ref 0], pc_w pL19)
  refine pc_putF (ix := 28) (ci := 5) (k := 2) (t := 2) (o := 5) (L' := pL20) hx hb hown hts hK6 hin (fun q h => by cases h; rfl) (by decide +kernel) (fs := [.ref 10, .ref 20, .null, .null, .null, .null, .int 0]) rfl (Nat.le_of_ble_eq_true rfl) rfl rfl dX5_init_38 ?_
  refine pm_sB_ok hx hb dX5_init_41 rfl ?_
  refine pc_new (N := 60) (own := RX5) (fs := [.int 0, .null, .null, .null]) hx hb hown hts hK6 hsz pt_C1 (pm_in 182 (by decide +kernel) rfl) (pm_in 183 (by decide +kernel) rfl) (pm_in 66 (by decide +kernel) rfl) (fun j hj => by rcases (show j = 0 ∨ j = 1 ∨ j = 2 ∨ j = 3 by omega) with rfl | rfl | rfl | rfl <;> rfl) (fun _ => rfl) (by decide +kernel) (Nat.le_of_ble_eq_true rfl) rfl rfl (Nat.le_of_ble_eq_true rfl) (Nat.le_of_ble_eq_true rfl) dX5_init_42 ?_
  intro r7 a7
  have hK7 := a7.kn hK6
  have hA7 : pc_ag 1 ρ r7 := (hA6).trans a7 (Nat.le_of_ble_eq_true rfl)
  show pm_K p l e _ s m args below meth c _ _ _ r7 τ D sz (45, [some (.ref 0)], [.ref 60, .ref 0], pc_w pL21)
  refine pm_sF_ok hx hb dX5_init_45 rfl ?_
  refine pc_call (own := RX5) (as := []) (rest := [.ref 60, .ref 0]) hx hb hml hown hts hK7 (pk_d60 (ρ := r7)) (pm_in 186 (by decide +kernel) rfl) (pm_in 184 (by decide +kernel) rfl) (pm_in 66 (by decide +kernel) rfl) (pm_in 185 (by decide +kernel) rfl) rfl (by decide +kernel) rfl ⟨rfl, rfl⟩ ⟨(Nat.le_of_ble_eq_true rfl), (Nat.le_of_ble_eq_true rfl)⟩ ⟨(Nat.le_of_ble_eq_true rfl), (Nat.le_of_ble_eq_true rfl)⟩ rfl rfl (Nat.le_of_ble_eq_true rfl) rfl dX5_init_46 ?_
  intro r8 a8
  have hK8 := a8.kn hK7
  have hA8 : pc_ag 1 ρ r8 := (hA7).trans a8 (Nat.le_of_ble_eq_true rfl)
  show pm_K p l e _ s m args below meth c _ _ _ r8 τ D sz (49, [some (.ref 0)], [.ref 60, .ref 0], pc_w pL28)
  refine pc_putF (ix := 35) (ci := 5) (k := 3) (t := 2) (o := 5) (L' := pL29) hx hb hown hts hK8 hin (fun q h => by cases h; rfl) (by decide +kernel) (fs := [.ref 10, .ref 20, .ref 40, .null, .null, .null, .int 0]) rfl (Nat.le_of_ble_eq_true rfl) rfl rfl dX5_init_49 ?_
  refine pm_sB_ok hx hb dX5_init_52 rfl ?_
  refine pc_new (N := 80) (own := RX5) (fs := [.int 0, .null, .null, .int 0, .null, .null, .null, .int 0, .null, .null, .null, .null]) hx hb hown hts hK8 hsz pt_C4 (pm_in 202 (by decide +kernel) rfl) (pm_in 203 (by decide +kernel) rfl) (pm_in 67 (by decide +kernel) rfl) (fun j hj => by rcases (show j = 0 ∨ j = 1 ∨ j = 2 ∨ j = 3 ∨ j = 4 ∨ j = 5 ∨ j = 6 ∨ j = 7 ∨ j = 8 ∨ j = 9 ∨ j = 10 ∨ j = 11 by omega) with rfl | rfl | rfl | rfl | rfl | rfl | rfl | rfl | rfl | rfl | rfl | rfl <;> rfl) (fun _ => rfl) (by decide +kernel) (Nat.le_of_ble_eq_true rfl) rfl rfl (Nat.le_of_ble_eq_true rfl) (Nat.le_of_ble_eq_true rfl) dX5_init_53 ?_
  intro r9 a9
  have hK9 := a9.kn hK8
  have hA9 : pc_ag 1 ρ r9 := (hA8).trans a9 (Nat.le_of_ble_eq_true rfl)
  show pm_K p l e _ s m args below meth c _ _ _ r9 τ D sz (56, [some (.ref 0)], [.ref 80, .ref 0], pc_w pL30)
  refine pm_sF_ok hx hb dX5_init_56 rfl ?_
  refine pc_call (own := RX5) (as := []) (rest := [.ref 80, .ref 0]) hx hb hml hown hts hK9 (pk_d80 (ρ := r9)) (pm_in 206 (by decide +kernel) rfl) (pm_in 204 (by decide +kernel) rfl) (pm_in 67 (by decide +kernel) rfl) (pm_in 205 (by decide +kernel) rfl) rfl (by decide +kernel) rfl ⟨rfl, rfl⟩ ⟨(Nat.le_of_ble_eq_true rfl), (Nat.le_of_ble_eq_true rfl)⟩ ⟨(Nat.le_of_ble_eq_true rfl), (Nat.le_of_ble_eq_true rfl)⟩ rfl rfl (Nat.le_of_ble_eq_true rfl) rfl dX5_init_57 ?_
  intro r10 a10
  have hK10 := a10.kn hK9
  have hA10 : pc_ag 1 ρ r10 := (hA9).trans a10 (Nat.le_of_ble_eq_true rfl)
  show pm_K p l e _ s m args below meth c _ _ _ r10 τ D sz (60, [some (.ref 0)], [.ref 80, .ref 0], pc_w pL49)
  refine pc_put (ix := 42) (ci := 5) (k := 4) (t := 2) (o := 5) (L' := pL50) hx hb hown hts hK10 (by decide +kernel) (fs := [.ref 10, .ref 20, .ref 40, .ref 60, .null, .null, .int 0]) rfl (Nat.le_of_ble_eq_true rfl) rfl rfl dX5_init_60 ?_
  refine pm_sB_ok hx hb dX5_init_63 rfl ?_
  refine pc_new (N := 100) (own := RX5) (fs := [.int 0, .null, .null, .int 0, .null, .null, .null, .int 0, .null, .null, .null, .null]) hx hb hown hts hK10 hsz pt_C4 (pm_in 202 (by decide +kernel) rfl) (pm_in 203 (by decide +kernel) rfl) (pm_in 67 (by decide +kernel) rfl) (fun j hj => by rcases (show j = 0 ∨ j = 1 ∨ j = 2 ∨ j = 3 ∨ j = 4 ∨ j = 5 ∨ j = 6 ∨ j = 7 ∨ j = 8 ∨ j = 9 ∨ j = 10 ∨ j = 11 by omega) with rfl | rfl | rfl | rfl | rfl | rfl | rfl | rfl | rfl | rfl | rfl | rfl <;> rfl) (fun _ => rfl) (by decide +kernel) (Nat.le_of_ble_eq_true rfl) rfl rfl (Nat.le_of_ble_eq_true rfl) (Nat.le_of_ble_eq_true rfl) dX5_init_64 ?_
  intro r11 a11
  have hK11 := a11.kn hK10
  have hA11 : pc_ag 1 ρ r11 := (hA10).trans a11 (Nat.le_of_ble_eq_true rfl)
  show pm_K p l e _ s m args below meth c _ _ _ r11 τ D sz (67, [some (.ref 0)], [.ref 100, .ref 0], pc_w pL51)
  refine pm_sF_ok hx hb dX5_init_67 rfl ?_
  refine pc_call (own := RX5) (as := []) (rest := [.ref 100, .ref 0]) hx hb hml hown hts hK11 (pk_d100 (ρ := r11)) (pm_in 206 (by decide +kernel) rfl) (pm_in 204 (by decide +kernel) rfl) (pm_in 67 (by decide +kernel) rfl) (pm_in 205 (by decide +kernel) rfl) rfl (by decide +kernel) rfl ⟨rfl, rfl⟩ ⟨(Nat.le_of_ble_eq_true rfl), (Nat.le_of_ble_eq_true rfl)⟩ ⟨(Nat.le_of_ble_eq_true rfl), (Nat.le_of_ble_eq_true rfl)⟩ rfl rfl (Nat.le_of_ble_eq_true rfl) rfl dX5_init_68 ?_
  intro r12 a12
  have hK12 := a12.kn hK11
  have hA12 : pc_ag 1 ρ r12 := (hA11).trans a12 (Nat.le_of_ble_eq_true rfl)
  show pm_K p l e _ s m args below meth c _ _ _ r12 τ D sz (71, [some (.ref 0)], [.ref 100, .ref 0], pc_w pL70)
  refine pc_put (ix := 46) (ci := 5) (k := 5) (t := 2) (o := 5) (L' := pL71) hx hb hown hts hK12 (by decide +kernel) (fs := [.ref 10, .ref 20, .ref 40, .ref 60, .ref 80, .null, .int 0]) rfl (Nat.le_of_ble_eq_true rfl) rfl rfl dX5_init_71 ?_
  refine pm_sB_ok hx hb dX5_init_74 rfl ?_
  refine pm_sA_ok hx hb dX5_init_75 rfl ?_
  refine pc_put (ix := 49) (ci := 5) (k := 6) (t := 0) (o := 5) (L' := pL72) hx hb hown hts hK12 (by decide +kernel) (fs := [.ref 10, .ref 20, .ref 40, .ref 60, .ref 80, .ref 100, .int 0]) rfl (Nat.le_of_ble_eq_true rfl) rfl rfl dX5_init_76 ?_
  exact pc_fin hx hb hr hlocks hA12 rfl rfl dX5_init_79
def pL73 : pc_Ls := (200, (.inr (6, [.int 0, .null, .int 0, .int 0, .int 0, .int 0, .int 0, .int 0, .int 0, .int 0, .long 0, .null, .null, .null, .int 0, .null, .null, .null, .int 0, .int 0, .int 0, .long 0, .long 0]))) :: pL71
def pL74 : pc_Ls := (202, (.inl (0, 740, .inl (fun _ => 0)))) :: pL73
def pL75 : pc_Ls := (202, (.inl (0, 740, .inl (fun _ => 0)))) :: (200, (.inr (6, [.int 0, .ref 202, .int 0, .int 0, .int 0, .int 0, .int 0, .int 0, .int 0, .int 0, .long 0, .null, .null, .null, .int 0, .null, .null, .null, .int 0, .int 0, .int 0, .long 0, .long 0]))) :: pL71
def pL76 : pc_Ls := (212, (.inl (0, 103, .inl (fun _ => 0)))) :: pL75
def pL77 : pc_Ls := (212, (.inl (0, 103, .inl (fun _ => 0)))) :: (202, (.inl (0, 740, .inl (fun _ => 0)))) :: (200, (.inr (6, [.int 0, .ref 202, .int 0, .int 0, .int 0, .int 0, .int 0, .int 0, .int 0, .int 0, .long 0, .ref 212, .null, .null, .int 0, .null, .null, .null, .int 0, .int 0, .int 0, .long 0, .long 0]))) :: pL71
def pL78 : pc_Ls := (213, (.inl (0, 103, .inl (fun _ => 0)))) :: pL77
def pL79 : pc_Ls := (213, (.inl (0, 103, .inl (fun _ => 0)))) :: (212, (.inl (0, 103, .inl (fun _ => 0)))) :: (202, (.inl (0, 740, .inl (fun _ => 0)))) :: (200, (.inr (6, [.int 0, .ref 202, .int 0, .int 0, .int 0, .int 0, .int 0, .int 0, .int 0, .int 0, .long 0, .ref 212, .ref 213, .null, .int 0, .null, .null, .null, .int 0, .int 0, .int 0, .long 0, .long 0]))) :: pL71
def pL80 : pc_Ls := (214, (.inl (0, 1030, .inl (fun _ => 0)))) :: pL79
def pL81 : pc_Ls := (214, (.inl (0, 1030, .inl (fun _ => 0)))) :: (213, (.inl (0, 103, .inl (fun _ => 0)))) :: (212, (.inl (0, 103, .inl (fun _ => 0)))) :: (202, (.inl (0, 740, .inl (fun _ => 0)))) :: (200, (.inr (6, [.int 0, .ref 202, .int 0, .int 0, .int 0, .int 0, .int 0, .int 0, .int 0, .int 0, .long 0, .ref 212, .ref 213, .ref 214, .int 0, .null, .null, .null, .int 0, .int 0, .int 0, .long 0, .long 0]))) :: pL71
def pL82 : pc_Ls := (216, (.inl (1, 8, .inr (.inl (fun _ => 0))))) :: pL81
def pL83 : pc_Ls := (216, (.inl (1, 8, .inr (.inl (fun _ => 0))))) :: (214, (.inl (0, 1030, .inl (fun _ => 0)))) :: (213, (.inl (0, 103, .inl (fun _ => 0)))) :: (212, (.inl (0, 103, .inl (fun _ => 0)))) :: (202, (.inl (0, 740, .inl (fun _ => 0)))) :: (200, (.inr (6, [.int 0, .ref 202, .int 0, .int 0, .int 0, .int 0, .int 0, .int 0, .int 0, .int 0, .long 0, .ref 212, .ref 213, .ref 214, .int 0, .ref 216, .null, .null, .int 0, .int 0, .int 0, .long 0, .long 0]))) :: pL71
def pL84 : pc_Ls := (217, (.inl (1, 8, .inr (.inl (fun _ => 0))))) :: pL83
def pL85 : pc_Ls := (217, (.inl (1, 8, .inr (.inl (fun _ => 0))))) :: (216, (.inl (1, 8, .inr (.inl (fun _ => 0))))) :: (214, (.inl (0, 1030, .inl (fun _ => 0)))) :: (213, (.inl (0, 103, .inl (fun _ => 0)))) :: (212, (.inl (0, 103, .inl (fun _ => 0)))) :: (202, (.inl (0, 740, .inl (fun _ => 0)))) :: (200, (.inr (6, [.int 0, .ref 202, .int 0, .int 0, .int 0, .int 0, .int 0, .int 0, .int 0, .int 0, .long 0, .ref 212, .ref 213, .ref 214, .int 0, .ref 216, .ref 217, .null, .int 0, .int 0, .int 0, .long 0, .long 0]))) :: pL71
def pL86 : pc_Ls := (218, (.inl (0, 8, .inl (fun _ => 0)))) :: pL85
def pL87 : pc_Ls := (218, (.inl (0, 8, .inl (fun _ => 0)))) :: (217, (.inl (1, 8, .inr (.inl (fun _ => 0))))) :: (216, (.inl (1, 8, .inr (.inl (fun _ => 0))))) :: (214, (.inl (0, 1030, .inl (fun _ => 0)))) :: (213, (.inl (0, 103, .inl (fun _ => 0)))) :: (212, (.inl (0, 103, .inl (fun _ => 0)))) :: (202, (.inl (0, 740, .inl (fun _ => 0)))) :: (200, (.inr (6, [.int 0, .ref 202, .int 0, .int 0, .int 0, .int 0, .int 0, .int 0, .int 0, .int 0, .long 0, .ref 212, .ref 213, .ref 214, .int 0, .ref 216, .ref 217, .ref 218, .int 0, .int 0, .int 0, .long 0, .long 0]))) :: pL71
def pL88 : pc_Ls := (218, (.inl (0, 8, .inl (fun _ => 0)))) :: (217, (.inl (1, 8, .inr (.inl (fun _ => 0))))) :: (216, (.inl (1, 8, .inr (.inl (fun _ => 0))))) :: (214, (.inl (0, 1030, .inl (fun _ => 0)))) :: (213, (.inl (0, 103, .inl (fun _ => 0)))) :: (212, (.inl (0, 103, .inl (ab_c0 (fun _ => 0))))) :: (202, (.inl (0, 740, .inl (fun _ => 0)))) :: (200, (.inr (6, [.int 0, .ref 202, .int 0, .int 0, .int 0, .int 0, .int 0, .int 0, .int 0, .int 0, .long 0, .ref 212, .ref 213, .ref 214, .int 0, .ref 216, .ref 217, .ref 218, .int 0, .int 0, .int 0, .long 0, .long 0]))) :: pL71
set_option maxRecDepth 100000 in
set_option maxHeartbeats 4000000 in
theorem pk_m : pc_Met l ρ τ D sz aV yX6_init cX6_init 1 { frames := 1, cells := 7, slots := 2000, locals := 21 } 7 2000 201 [.ref 200] pL73 pL88 := by
  refine pc_open (o := 6) (k := 200) (by decide +kernel) rfl rfl (Nat.le_of_ble_eq_true rfl) rfl ?_
  intro p e s m args below meth c hx hb hml hown hts hr hlocks hin hK hsz
  show pm_K p l e _ s m args below meth c 0 0 _ ρ τ D sz (0, [some (.ref 200)], [], pc_w pL73)
  refine pm_sB_ok hx hb dX6_init_0 rfl ?_
  refine pc_obj (own := RX6) hx hb hml hown hts (pm_in 844 (by decide +kernel) rfl) ⟨(Nat.le_of_ble_eq_true rfl), (Nat.le_of_ble_eq_true rfl)⟩ (Nat.le_of_ble_eq_true rfl) dX6_init_1 ?_
  refine pm_sB_ok hx hb dX6_init_4 rfl ?_
  refine pm_sA_ok hx hb dX6_init_5 rfl ?_
  refine pc_newa (N := 202) (t := 0) (N' := 740) (ty := .int) (a0 := (740, .inl (fun _ => 0))) hx hb hts hK hsz rfl rfl (fun h => h) (pm_in 180 (by decide +kernel) rfl) (fun _ => rfl) (by decide +kernel) (by decide +kernel) (by decide +kernel) (by decide +kernel) (Nat.le_of_ble_eq_true rfl) rfl rfl (Nat.le_of_ble_eq_true rfl) (Nat.le_of_ble_eq_true rfl) dX6_init_8 ?_
  intro r1 a1
  have hK1 := a1.kn hK
  have hA1 : pc_ag 201 ρ r1 := (pc_ag.rf).trans a1 (Nat.le_of_ble_eq_true rfl)
  show pm_K p l e _ s m args below meth c _ _ _ r1 τ D sz (10, [some (.ref 200)], [.ref 202, .ref 200], pc_w pL74)
  refine pc_putF (ix := 7) (ci := 6) (k := 1) (t := 2) (o := 6) (L' := pL75) hx hb hown hts hK1 hin (fun q h => by cases h; rfl) (by decide +kernel) (fs := [.int 0, .null, .int 0, .int 0, .int 0, .int 0, .int 0, .int 0, .int 0, .int 0, .long 0, .null, .null, .null, .int 0, .null, .null, .null, .int 0, .int 0, .int 0, .long 0, .long 0]) rfl (Nat.le_of_ble_eq_true rfl) rfl rfl dX6_init_10 ?_
  refine pm_sB_ok hx hb dX6_init_13 rfl ?_
  refine pm_sA_ok hx hb dX6_init_14 rfl ?_
  refine pc_newa (N := 212) (t := 0) (N' := 103) (ty := .int) (a0 := (103, .inl (fun _ => 0))) hx hb hts hK1 hsz rfl rfl (fun h => h) (pm_in 180 (by decide +kernel) rfl) (fun _ => rfl) (by decide +kernel) (by decide +kernel) (by decide +kernel) (by decide +kernel) (Nat.le_of_ble_eq_true rfl) rfl rfl (Nat.le_of_ble_eq_true rfl) (Nat.le_of_ble_eq_true rfl) dX6_init_16 ?_
  intro r2 a2
  have hK2 := a2.kn hK1
  have hA2 : pc_ag 201 ρ r2 := (hA1).trans a2 (Nat.le_of_ble_eq_true rfl)
  show pm_K p l e _ s m args below meth c _ _ _ r2 τ D sz (18, [some (.ref 200)], [.ref 212, .ref 200], pc_w pL76)
  refine pc_putF (ix := 84) (ci := 6) (k := 11) (t := 2) (o := 6) (L' := pL77) hx hb hown hts hK2 hin (fun q h => by cases h; rfl) (by decide +kernel) (fs := [.int 0, .ref 202, .int 0, .int 0, .int 0, .int 0, .int 0, .int 0, .int 0, .int 0, .long 0, .null, .null, .null, .int 0, .null, .null, .null, .int 0, .int 0, .int 0, .long 0, .long 0]) rfl (Nat.le_of_ble_eq_true rfl) rfl rfl dX6_init_18 ?_
  refine pm_sB_ok hx hb dX6_init_21 rfl ?_
  refine pm_sA_ok hx hb dX6_init_22 rfl ?_
  refine pc_newa (N := 213) (t := 0) (N' := 103) (ty := .int) (a0 := (103, .inl (fun _ => 0))) hx hb hts hK2 hsz rfl rfl (fun h => h) (pm_in 180 (by decide +kernel) rfl) (fun _ => rfl) (by decide +kernel) (by decide +kernel) (by decide +kernel) (by decide +kernel) (Nat.le_of_ble_eq_true rfl) rfl rfl (Nat.le_of_ble_eq_true rfl) (Nat.le_of_ble_eq_true rfl) dX6_init_24 ?_
  intro r3 a3
  have hK3 := a3.kn hK2
  have hA3 : pc_ag 201 ρ r3 := (hA2).trans a3 (Nat.le_of_ble_eq_true rfl)
  show pm_K p l e _ s m args below meth c _ _ _ r3 τ D sz (26, [some (.ref 200)], [.ref 213, .ref 200], pc_w pL78)
  refine pc_putF (ix := 87) (ci := 6) (k := 12) (t := 2) (o := 6) (L' := pL79) hx hb hown hts hK3 hin (fun q h => by cases h; rfl) (by decide +kernel) (fs := [.int 0, .ref 202, .int 0, .int 0, .int 0, .int 0, .int 0, .int 0, .int 0, .int 0, .long 0, .ref 212, .null, .null, .int 0, .null, .null, .null, .int 0, .int 0, .int 0, .long 0, .long 0]) rfl (Nat.le_of_ble_eq_true rfl) rfl rfl dX6_init_26 ?_
  refine pm_sB_ok hx hb dX6_init_29 rfl ?_
  refine pm_sA_ok hx hb dX6_init_30 rfl ?_
  refine pc_newa (N := 214) (t := 0) (N' := 1030) (ty := .int) (a0 := (1030, .inl (fun _ => 0))) hx hb hts hK3 hsz rfl rfl (fun h => h) (pm_in 180 (by decide +kernel) rfl) (fun _ => rfl) (by decide +kernel) (by decide +kernel) (by decide +kernel) (by decide +kernel) (Nat.le_of_ble_eq_true rfl) rfl rfl (Nat.le_of_ble_eq_true rfl) (Nat.le_of_ble_eq_true rfl) dX6_init_33 ?_
  intro r4 a4
  have hK4 := a4.kn hK3
  have hA4 : pc_ag 201 ρ r4 := (hA3).trans a4 (Nat.le_of_ble_eq_true rfl)
  show pm_K p l e _ s m args below meth c _ _ _ r4 τ D sz (35, [some (.ref 200)], [.ref 214, .ref 200], pc_w pL80)
  refine pc_putF (ix := 90) (ci := 6) (k := 13) (t := 2) (o := 6) (L' := pL81) hx hb hown hts hK4 hin (fun q h => by cases h; rfl) (by decide +kernel) (fs := [.int 0, .ref 202, .int 0, .int 0, .int 0, .int 0, .int 0, .int 0, .int 0, .int 0, .long 0, .ref 212, .ref 213, .null, .int 0, .null, .null, .null, .int 0, .int 0, .int 0, .long 0, .long 0]) rfl (Nat.le_of_ble_eq_true rfl) rfl rfl dX6_init_35 ?_
  refine pm_sB_ok hx hb dX6_init_38 rfl ?_
  refine pm_sA_ok hx hb dX6_init_39 rfl ?_
  refine pc_newa (N := 216) (t := 1) (N' := 8) (ty := .long) (a0 := (8, .inr (.inl (fun _ => 0)))) hx hb hts hK4 hsz rfl rfl (fun h => h) (pm_in 181 (by decide +kernel) rfl) (fun _ => rfl) (by decide +kernel) (by decide +kernel) (by decide +kernel) (by decide +kernel) (Nat.le_of_ble_eq_true rfl) rfl rfl (Nat.le_of_ble_eq_true rfl) (Nat.le_of_ble_eq_true rfl) dX6_init_41 ?_
  intro r5 a5
  have hK5 := a5.kn hK4
  have hA5 : pc_ag 201 ρ r5 := (hA4).trans a5 (Nat.le_of_ble_eq_true rfl)
  show pm_K p l e _ s m args below meth c _ _ _ r5 τ D sz (43, [some (.ref 200)], [.ref 216, .ref 200], pc_w pL82)
  refine pc_putF (ix := 93) (ci := 6) (k := 15) (t := 2) (o := 6) (L' := pL83) hx hb hown hts hK5 hin (fun q h => by cases h; rfl) (by decide +kernel) (fs := [.int 0, .ref 202, .int 0, .int 0, .int 0, .int 0, .int 0, .int 0, .int 0, .int 0, .long 0, .ref 212, .ref 213, .ref 214, .int 0, .null, .null, .null, .int 0, .int 0, .int 0, .long 0, .long 0]) rfl (Nat.le_of_ble_eq_true rfl) rfl rfl dX6_init_43 ?_
  refine pm_sB_ok hx hb dX6_init_46 rfl ?_
  refine pm_sA_ok hx hb dX6_init_47 rfl ?_
  refine pc_newa (N := 217) (t := 1) (N' := 8) (ty := .long) (a0 := (8, .inr (.inl (fun _ => 0)))) hx hb hts hK5 hsz rfl rfl (fun h => h) (pm_in 181 (by decide +kernel) rfl) (fun _ => rfl) (by decide +kernel) (by decide +kernel) (by decide +kernel) (by decide +kernel) (Nat.le_of_ble_eq_true rfl) rfl rfl (Nat.le_of_ble_eq_true rfl) (Nat.le_of_ble_eq_true rfl) dX6_init_49 ?_
  intro r6 a6
  have hK6 := a6.kn hK5
  have hA6 : pc_ag 201 ρ r6 := (hA5).trans a6 (Nat.le_of_ble_eq_true rfl)
  show pm_K p l e _ s m args below meth c _ _ _ r6 τ D sz (51, [some (.ref 200)], [.ref 217, .ref 200], pc_w pL84)
  refine pc_putF (ix := 97) (ci := 6) (k := 16) (t := 2) (o := 6) (L' := pL85) hx hb hown hts hK6 hin (fun q h => by cases h; rfl) (by decide +kernel) (fs := [.int 0, .ref 202, .int 0, .int 0, .int 0, .int 0, .int 0, .int 0, .int 0, .int 0, .long 0, .ref 212, .ref 213, .ref 214, .int 0, .ref 216, .null, .null, .int 0, .int 0, .int 0, .long 0, .long 0]) rfl (Nat.le_of_ble_eq_true rfl) rfl rfl dX6_init_51 ?_
  refine pm_sB_ok hx hb dX6_init_54 rfl ?_
  refine pm_sA_ok hx hb dX6_init_55 rfl ?_
  refine pc_newa (N := 218) (t := 0) (N' := 8) (ty := .int) (a0 := (8, .inl (fun _ => 0))) hx hb hts hK6 hsz rfl rfl (fun h => h) (pm_in 180 (by decide +kernel) rfl) (fun _ => rfl) (by decide +kernel) (by decide +kernel) (by decide +kernel) (by decide +kernel) (Nat.le_of_ble_eq_true rfl) rfl rfl (Nat.le_of_ble_eq_true rfl) (Nat.le_of_ble_eq_true rfl) dX6_init_57 ?_
  intro r7 a7
  have hK7 := a7.kn hK6
  have hA7 : pc_ag 201 ρ r7 := (hA6).trans a7 (Nat.le_of_ble_eq_true rfl)
  show pm_K p l e _ s m args below meth c _ _ _ r7 τ D sz (59, [some (.ref 200)], [.ref 218, .ref 200], pc_w pL86)
  refine pc_putF (ix := 100) (ci := 6) (k := 17) (t := 2) (o := 6) (L' := pL87) hx hb hown hts hK7 hin (fun q h => by cases h; rfl) (by decide +kernel) (fs := [.int 0, .ref 202, .int 0, .int 0, .int 0, .int 0, .int 0, .int 0, .int 0, .int 0, .long 0, .ref 212, .ref 213, .ref 214, .int 0, .ref 216, .ref 217, .null, .int 0, .int 0, .int 0, .long 0, .long 0]) rfl (Nat.le_of_ble_eq_true rfl) rfl rfl dX6_init_59 ?_
  refine pm_sB_ok hx hb dX6_init_62 rfl ?_
  refine pm_get (ix := 84) (ci := 6) (k := 11) (t := 2) (fin := true) (o := 6) (v := .ref 212) hx hb hown hts hK7 (by decide +kernel) rfl dX6_init_63 ?_
  refine pr_callS (own := RX6) (M := 90) (av := [.ref 212]) (rest := []) (r := none) (w' := pc_w pL88) hx hb hml hown hts hK7 (pm_contract (pm_ScOk_all l) r7 τ D sz aV pt_Y90 (Nat.le_of_ble_eq_true rfl) (by rw [q_clears (f := fun _ => 0) rfl, pc_up]; rfl)) pt_Y90 (pm_in 845 (by decide +kernel) rfl) (pm_in 846 (by decide +kernel) rfl) rfl ⟨(Nat.le_of_ble_eq_true rfl), (Nat.le_of_ble_eq_true rfl)⟩ ⟨(Nat.le_of_ble_eq_true rfl), (Nat.le_of_ble_eq_true rfl)⟩ (Nat.le_of_ble_eq_true rfl) rfl dX6_init_66 ?_
  exact pc_fin hx hb hr hlocks hA7 rfl rfl dX6_init_69
def pL89 : pc_Ls := (300, (.inl (1, 1, .inr (.inl (fun _ => 0))))) :: pL88
end PKM
