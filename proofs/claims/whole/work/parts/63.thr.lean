/-! THE DESK'S METHODS THAT THROW -/
theorem dt75_14 : decode cX5_requireRun 14 = .ok (.new 102, 3) := by decide +kernel
theorem dt75_17 : decode cX5_requireRun 17 = .ok (.dup, 1) := by decide +kernel
theorem dt75_18 : decode cX5_requireRun 18 = .ok (.ldc 250, 2) := by decide +kernel
theorem dt75_20 : decode cX5_requireRun 20 = .ok (.invokespecial 106, 3) := by decide +kernel
theorem dt75_23 : decode cX5_requireRun 23 = .ok (.athrow, 1) := by decide +kernel
theorem dt73_7 : decode cX5_quarter 7 = .ok (.new 102, 3) := by decide +kernel
theorem dt73_10 : decode cX5_quarter 10 = .ok (.dup, 1) := by decide +kernel
theorem dt73_11 : decode cX5_quarter 11 = .ok (.ldc 104, 2) := by decide +kernel
theorem dt73_13 : decode cX5_quarter 13 = .ok (.invokespecial 106, 3) := by decide +kernel
theorem dt73_16 : decode cX5_quarter 16 = .ok (.athrow, 1) := by decide +kernel
theorem dt73_46 : decode cX5_quarter 46 = .ok (.new 102, 3) := by decide +kernel
theorem dt73_49 : decode cX5_quarter 49 = .ok (.dup, 1) := by decide +kernel
theorem dt73_50 : decode cX5_quarter 50 = .ok (.ldc 116, 2) := by decide +kernel
theorem dt73_52 : decode cX5_quarter 52 = .ok (.invokespecial 106, 3) := by decide +kernel
theorem dt73_55 : decode cX5_quarter 55 = .ok (.athrow, 1) := by decide +kernel
theorem dt76_16 : decode cX5_adds 16 = .ok (.new 102, 3) := by decide +kernel
theorem dt76_19 : decode cX5_adds 19 = .ok (.dup, 1) := by decide +kernel
theorem dt76_20 : decode cX5_adds 20 = .ok (.ldc 153, 2) := by decide +kernel
theorem dt76_22 : decode cX5_adds 22 = .ok (.invokespecial 106, 3) := by decide +kernel
theorem dt76_25 : decode cX5_adds 25 = .ok (.athrow, 1) := by decide +kernel
theorem dt77_14 : decode cX5_run 14 = .ok (.new 102, 3) := by decide +kernel
theorem dt77_17 : decode cX5_run 17 = .ok (.dup, 1) := by decide +kernel
theorem dt77_18 : decode cX5_run 18 = .ok (.ldc 169, 2) := by decide +kernel
theorem dt77_20 : decode cX5_run 20 = .ok (.invokespecial 106, 3) := by decide +kernel
theorem dt77_23 : decode cX5_run 23 = .ok (.athrow, 1) := by decide +kernel
section PXT
variable {l : Launch} {ρ : Nat → Nat} {τ : Nat → ClassId} {D : va_G} {sz : Nat} {aV : Nat → Nat} {w : pm_H} {x1 x2 v : Int32}
theorem px_rr (hlt : l.stackTraces = false) (hno : ¬ ab_rok x1 x2) : px_Met l ρ τ D sz aV 75 6 82 [.int x1, .int x2] w := by
  refine px_open pt_Y75 (by decide +kernel) (Nat.le_refl 2) ?_
  intro p e s m args below meth c hx hb hml hown hts hlocks hout hK
  have hb : c.code = cX5_requireRun := hb
  show pm_K p l e _ s m args below meth c 0 0 _ ρ τ D sz (0, [some (.int x1), some (.int x2)], [], w)
  have hthr : pm_K p l e { frames := 6, cells := 1, slots := 6, locals := 82 } s m args below meth c 0 0 (vx_MQ below px_N (px_X ρ τ D sz w) args s 1 6 (fun q => sz ≤ q)) ρ τ D sz (14, [some (.int x1), some (.int x2)], [], w) := px_throw hlt hx hb hml hown hts hK (text := "no such run of quarters") (by decide +kernel) dt75_14 dt75_17 dt75_18 dt75_20 dt75_23 hout (Nat.le_refl 6) (Nat.le_refl 82) (Nat.le_refl 1) (Nat.le_refl 6) hlocks (Nat.le_refl 1) (Nat.le_refl 6)
  refine pm_sB_ok hx hb d75_0 rfl (pr_lt hx hb d75_1 (tgt := 14) rfl (fun _ => hthr) (fun z0 => ?_))
  refine pm_sB_ok hx hb d75_4 rfl (pm_sB_ok hx hb d75_5 rfl (pr_cgt hx hb d75_6 (tgt := 14) rfl (fun _ => hthr) (fun z1 => ?_)))
  exact pm_sB_ok hx hb d75_9 rfl (pm_sA_ok hx hb d75_10 rfl (pr_clt hx hb d75_11 (tgt := 24) rfl (fun z2 => absurd ⟨z0, z1, z2⟩ hno) (fun _ => hthr)))
theorem px_via {p : Program} {e : Env} {s : State} {m : MethodId} {args : Array Value} {below : List Frame} {meth : Method} {c : Code} {cc : ByteArray} {pc : Nat} {pl : pm_L} (hlt : l.stackTraces = false) (hno : ¬ ab_rok x1 x2) (hx : p.tables.exec = Jvm.exec) (hb : c.code = cc) (hml : c.maxLocals = pl.length) (hown : s.vm.findClass RX5 = some m.cls) (hts : ∀ w ∈ pm_tb, w.before args s = true) (hK : pm_Kn ρ τ D sz aV s s.heap) (hlocks : meth.locks = false) (hout : ∀ x ∈ c.exceptionTable.toList, False) (hd : decode cc pc = .ok (.invokestatic 145, 3)) :
    pm_K p l e { frames := 7, cells := 1, slots := 6, locals := 103 } s m args below meth c 0 0 (vx_MQ below px_N (px_X ρ τ D sz w) args s 1 6 (fun q => sz ≤ q)) ρ τ D sz (pc, pl, [.int x2, .int x1], w) := by
  intro H locs ls hSim hS hl
  refine px_goon (vx_runS (As := [.int x1, .int x2]) (rest := []) (nL := ls.size) ⟨hx, hb, hml.trans hl.1.symm, hown, hts⟩ (px_rr (w := w) hlt hno) ⟨callB_of 2 hts (pm_good pt_Y75) rfl rfl rfl (hts _ pt_Y75.2.1) (hts _ (pm_in 664 (by decide +kernel) rfl)) pt_Y75.2.2.1 ⟨Nat.le_refl 7, Nat.le_refl 103⟩, hts _ (pm_in 665 (by decide +kernel) rfl)⟩ ⟨pm_blind, pm_pre (av := [.int x1, .int x2]) hK hSim hS⟩ rfl rfl rfl rfl (lv_room (Nat.zero_le _)) hd ⟨Nat.le_refl 1, Nat.le_refl 6⟩) hS ?_
  intro ce q9 H1 locs1 hSim1 hS1 hc hv hcl
  exact vx_out (fun x h => absurd (hout x h) id) hlocks hc hv hcl (fun t ht _ => ⟨rfl, by rw [ht]; exact hSim1, hS1.F ht⟩) hS1.2.2 (Nat.le_refl 1) (Nat.le_refl 6)
theorem px_74 (hlt : l.stackTraces = false) (hno : ¬ ab_rok x1 x2) : px_Met l ρ τ D sz aV 74 7 103 [.ref 0, .int x1, .int x2] w := by
  refine px_open pt_Y74 (by decide +kernel) (Nat.le_of_ble_eq_true rfl) ?_
  intro p e s m args below meth c hx hb hml hown hts hlocks hout hK
  have hb : c.code = cX5_weight := hb
  show pm_K p l e _ s m args below meth c 0 0 _ ρ τ D sz (0, [some (.ref 0), some (.int x1), some (.int x2)], [], w)
  exact pm_sB_ok hx hb d74_0 rfl (pm_sB_ok hx hb d74_1 rfl (px_via hlt hno hx hb hml hown hts hK hlocks hout d74_2))
theorem px_78 (hlt : l.stackTraces = false) (hno : ¬ ab_rok x1 x2) : px_Met l ρ τ D sz aV 78 7 103 [.ref 0, .int x1, .int x2, .int v] w := by
  refine px_open pt_Y78 (by decide +kernel) (Nat.le_of_ble_eq_true rfl) ?_
  intro p e s m args below meth c hx hb hml hown hts hlocks hout hK
  have hb : c.code = cX5_rank := hb
  show pm_K p l e _ s m args below meth c 0 0 _ ρ τ D sz (0, [some (.ref 0), some (.int x1), some (.int x2), some (.int v)], [], w)
  exact pm_sB_ok hx hb d78_0 rfl (pm_sB_ok hx hb d78_1 rfl (px_via hlt hno hx hb hml hown hts hK hlocks hout d78_2))
theorem px_77 (hlt : l.stackTraces = false) (hno : ¬ ab_rok x1 x2) : px_Met l ρ τ D sz aV 77 7 103 [.ref 0, .int x1, .int x2, .int v] w := by
  refine px_open pt_Y77 (by decide +kernel) (Nat.le_of_ble_eq_true rfl) ?_
  intro p e s m args below meth c hx hb hml hown hts hlocks hout hK
  have hb : c.code = cX5_run := hb
  show pm_K p l e _ s m args below meth c 0 0 _ ρ τ D sz (0, [some (.ref 0), some (.int x1), some (.int x2), some (.int v)], [], w)
  exact pm_sB_ok hx hb d77_0 rfl (pm_sB_ok hx hb d77_1 rfl (px_via hlt hno hx hb hml hown hts hK hlocks hout d77_2))
theorem px_79 (hlt : l.stackTraces = false) (hno : ¬ ab_rok x1 x2) : px_Met l ρ τ D sz aV 79 7 103 [.ref 0, .int v, .int x1, .int x2] w := by
  refine px_open pt_Y79 (by decide +kernel) (Nat.le_of_ble_eq_true rfl) ?_
  intro p e s m args below meth c hx hb hml hown hts hlocks hout hK
  have hb : c.code = cX5_without := hb
  show pm_K p l e _ s m args below meth c 0 0 _ ρ τ D sz (0, [some (.ref 0), some (.int v), some (.int x1), some (.int x2)], [], w)
  exact pm_sB_ok hx hb d79_0 rfl (pm_sB_ok hx hb d79_1 rfl (px_via hlt hno hx hb hml hown hts hK hlocks hout d79_2))
theorem px_81 (hlt : l.stackTraces = false) (hno : ¬ ab_rok x1 x2) : px_Met l ρ τ D sz aV 81 7 103 [.ref 0, .int v, .int x1, .int x2] w := by
  refine px_open pt_Y81 (by decide +kernel) (Nat.le_of_ble_eq_true rfl) ?_
  intro p e s m args below meth c hx hb hml hown hts hlocks hout hK
  have hb : c.code = cX5_with := hb
  show pm_K p l e _ s m args below meth c 0 0 _ ρ τ D sz (0, [some (.ref 0), some (.int v), some (.int x1), some (.int x2)], [], w)
  exact pm_sB_ok hx hb d81_0 rfl (pm_sB_ok hx hb d81_1 rfl (px_via hlt hno hx hb hml hown hts hK hlocks hout d81_2))
theorem px_85 (hlt : l.stackTraces = false) (hno : ¬ ab_rok x1 x2) : px_Met l ρ τ D sz aV 85 7 103 [.ref 0, .int v, .int x1, .int x2] w := by
  refine px_open pt_Y85 (by decide +kernel) (Nat.le_of_ble_eq_true rfl) ?_
  intro p e s m args below meth c hx hb hml hown hts hlocks hout hK
  have hb : c.code = cX5_ifSplit := hb
  show pm_K p l e _ s m args below meth c 0 0 _ ρ τ D sz (0, [some (.ref 0), some (.int v), some (.int x1), some (.int x2), none], [], w)
  exact pm_sB_ok hx hb d85_0 rfl (pm_sB_ok hx hb d85_1 rfl (px_via hlt hno hx hb hml hown hts hK hlocks hout d85_2))
theorem px_76 {g : Int32} (hlt : l.stackTraces = false) (hno : ¬ ab_rok x1 x2) : px_Met l ρ τ D sz aV 76 7 103 [.ref 0, .int v, .int x1, .int x2, .int g] w := by
  refine px_open pt_Y76 (by decide +kernel) (Nat.le_of_ble_eq_true rfl) ?_
  intro p e s m args below meth c hx hb hml hown hts hlocks hout hK
  have hb : c.code = cX5_adds := hb
  show pm_K p l e _ s m args below meth c 0 0 _ ρ τ D sz (0, [some (.ref 0), some (.int v), some (.int x1), some (.int x2), some (.int g)], [], w)
  exact pm_sB_ok hx hb d76_0 rfl (pm_sB_ok hx hb d76_1 rfl (px_via hlt hno hx hb hml hown hts hK hlocks hout d76_2))
theorem px_82 {q : Int32} (hlt : l.stackTraces = false) (hno : ¬ ab_rok x1 x2) : px_Met l ρ τ D sz aV 82 7 103 [.ref 0, .int q, .int v, .int x1, .int x2] w := by
  refine px_open pt_Y82 (by decide +kernel) (Nat.le_of_ble_eq_true rfl) ?_
  intro p e s m args below meth c hx hb hml hown hts hlocks hout hK
  have hb : c.code = cX5_priced := hb
  show pm_K p l e _ s m args below meth c 0 0 _ ρ τ D sz (0, [some (.ref 0), some (.int q), some (.int v), some (.int x1), some (.int x2), none, none], [], w)
  exact pm_sB_ok hx hb d82_0 rfl (pm_sB_ok hx hb d82_1 rfl (px_via hlt hno hx hb hml hown hts hK hlocks hout d82_3))
theorem px_83 {q : Int32} (hlt : l.stackTraces = false) (hno : ¬ ab_rok x1 x2) : px_Met l ρ τ D sz aV 83 7 103 [.ref 0, .int q, .int v, .int x1, .int x2] w := by
  refine px_open pt_Y83 (by decide +kernel) (Nat.le_of_ble_eq_true rfl) ?_
  intro p e s m args below meth c hx hb hml hown hts hlocks hout hK
  have hb : c.code = cX5_profit := hb
  show pm_K p l e _ s m args below meth c 0 0 _ ρ τ D sz (0, [some (.ref 0), some (.int q), some (.int v), some (.int x1), some (.int x2)], [], w)
  exact pm_sB_ok hx hb d83_0 rfl (pm_sB_ok hx hb d83_1 rfl (px_via hlt hno hx hb hml hown hts hK hlocks hout d83_3))
theorem px_run2 {a b : Nat} (hlt : l.stackTraces = false) (hab : a ≤ b) (hb4 : b < 4) (hno : ¬ (¬ v < 0 ∧ ¬ 5 < v)) : px_Met l ρ τ D sz aV 77 7 103 [.ref 0, .int (nI a), .int (nI b), .int v] w := by
  refine px_open pt_Y77 (by decide +kernel) (Nat.le_of_ble_eq_true rfl) ?_
  intro p e s m args below meth c hx hb hml hown hts hlocks hout hK
  have hb : c.code = cX5_run := hb
  show pm_K p l e _ s m args below meth c 0 0 _ ρ τ D sz (0, [some (.ref 0), some (.int (nI a)), some (.int (nI b)), some (.int v)], [], w)
  have hthr : pm_K p l e { frames := 7, cells := 1, slots := 6, locals := 103 } s m args below meth c 0 0 (vx_MQ below px_N (px_X ρ τ D sz w) args s 1 6 (fun q => sz ≤ q)) ρ τ D sz (14, [some (.ref 0), some (.int (nI a)), some (.int (nI b)), some (.int v)], [], w) := px_throw hlt hx hb hml hown hts hK (text := "a run has no such thing") (by decide +kernel) dt77_14 dt77_17 dt77_18 dt77_20 dt77_23 hout (Nat.le_of_ble_eq_true rfl) (Nat.le_of_ble_eq_true rfl) (Nat.le_refl 1) (Nat.le_refl 6) hlocks (Nat.le_refl 1) (Nat.le_refl 6)
  refine pm_sB_ok hx hb d77_0 rfl (pm_sB_ok hx hb d77_1 rfl ?_)
  refine pr_callS (own := RX5) (M := 75) (av := [.int (nI a), .int (nI b)]) (rest := []) (r := none) (w' := w) hx hb hml hown hts hK (pm_contract (pm_ScOk_all l) ρ τ D sz aV pt_Y75 (Nat.le_refl 2) (q_requireRun hab hb4)) pt_Y75 (pm_in 664 (by decide +kernel) rfl) (pm_in 665 (by decide +kernel) rfl) rfl ⟨Nat.le_of_ble_eq_true rfl, Nat.le_of_ble_eq_true rfl⟩ ⟨Nat.zero_le _, Nat.zero_le _⟩ (Nat.zero_le _) rfl d77_2 ?_
  refine pm_sB_ok hx hb d77_5 rfl (pr_lt hx hb d77_6 (tgt := 14) rfl (fun _ => hthr) (fun z0 => ?_))
  exact pm_sB_ok hx hb d77_9 rfl (pm_sA_ok hx hb d77_10 rfl (pr_cle hx hb d77_11 (tgt := 24) rfl (fun z1 => absurd ⟨z0, Int32.not_lt.mpr z1⟩ hno) (fun _ => hthr)))
theorem px_adds2 {a b y z : Nat} {g fk : Int32} {Y : Nat → Nat → Int32} (hlt : l.stackTraces = false) (hab : a ≤ b) (hb4 : b < 4) (h0 : w 0 = some (.inr (5, [.ref 10, .ref 20, .ref 40, .ref 60, .ref y, .ref z, .int fk]))) (hY : pm_Yr w y Y) (hno : ¬ (¬ v < 0 ∧ v < Y 7 0)) : px_Met l ρ τ D sz aV 76 7 103 [.ref 0, .int v, .int (nI a), .int (nI b), .int g] w := by
  refine px_open pt_Y76 (by decide +kernel) (Nat.le_of_ble_eq_true rfl) ?_
  intro p e s m args below meth c hx hb hml hown hts hlocks hout hK
  have hb : c.code = cX5_adds := hb
  show pm_K p l e _ s m args below meth c 0 0 _ ρ τ D sz (0, [some (.ref 0), some (.int v), some (.int (nI a)), some (.int (nI b)), some (.int g)], [], w)
  have hthr : pm_K p l e { frames := 7, cells := 1, slots := 6, locals := 103 } s m args below meth c 0 0 (vx_MQ below px_N (px_X ρ τ D sz w) args s 1 6 (fun q => sz ≤ q)) ρ τ D sz (16, [some (.ref 0), some (.int v), some (.int (nI a)), some (.int (nI b)), some (.int g)], [], w) := px_throw hlt hx hb hml hown hts hK (text := "no such instrument") (by decide +kernel) dt76_16 dt76_19 dt76_20 dt76_22 dt76_25 hout (Nat.le_of_ble_eq_true rfl) (Nat.le_of_ble_eq_true rfl) (Nat.le_refl 1) (Nat.le_refl 6) hlocks (Nat.le_refl 1) (Nat.le_refl 6)
  have hin : pm_call 42 [.ref y, .int v] w = some (some (.int 0), w) := by
    rw [q_hasInstrument hY]
    congr 3
    by_cases z : v < 0
    · rw [if_pos z]
    · rw [if_neg z, if_neg (fun z2 => hno ⟨z, z2⟩)]
  refine pm_sB_ok hx hb d76_0 rfl (pm_sB_ok hx hb d76_1 rfl ?_)
  refine pr_callS (own := RX5) (M := 75) (av := [.int (nI a), .int (nI b)]) (rest := []) (r := none) (w' := w) hx hb hml hown hts hK (pm_contract (pm_ScOk_all l) ρ τ D sz aV pt_Y75 (Nat.le_refl 2) (q_requireRun hab hb4)) pt_Y75 (pm_in 664 (by decide +kernel) rfl) (pm_in 665 (by decide +kernel) rfl) rfl ⟨Nat.le_of_ble_eq_true rfl, Nat.le_of_ble_eq_true rfl⟩ ⟨Nat.zero_le _, Nat.zero_le _⟩ (Nat.zero_le _) rfl d76_2 ?_
  refine pm_sB_ok hx hb d76_5 rfl (pm_get (o := 5) hx hb hown hts hK (ci := 5) (k := 4) (t := 2) (fin := false) rfl (by rw [h0]; rfl) d76_6 (pm_sB_ok hx hb d76_9 rfl ?_))
  refine pr_callV (own := RX5) (M := 42) (a := y) (as := [.int v]) (rest := []) (r := some (.int 0)) (w' := w) hx hb hml hown hts hK (pm_contract (pm_ScOk_all l) ρ τ D sz aV pt_Y42 (Nat.le_of_ble_eq_true rfl) hin) pt_Y42 (pm_in 518 (by decide +kernel) rfl) (pm_in 519 (by decide +kernel) rfl) (pm_in 520 (by decide +kernel) rfl) ⟨RX4, TX4, 12, rfl, rfl⟩ ⟨_, hY.1⟩ rfl ⟨Nat.le_of_ble_eq_true rfl, Nat.le_of_ble_eq_true rfl⟩ ⟨Nat.zero_le _, Nat.zero_le _⟩ (Nat.zero_le _) rfl d76_10 ?_
  exact pr_ne hx hb d76_13 (tgt := 26) rfl (fun z => absurd rfl z) (fun _ => hthr)
theorem px_quarter {q : Int32} (hlt : l.stackTraces = false) (hno : ¬ (¬ q < 0 ∧ q < 4 ∧ (v = 0 ∨ v = 1))) : px_Met l ρ τ D sz aV 73 7 103 [.ref 0, .int q, .int v] w := by
  refine px_open pt_Y73 (by decide +kernel) (Nat.le_of_ble_eq_true rfl) ?_
  intro p e s m args below meth c hx hb hml hown hts hlocks hout hK
  have hb : c.code = cX5_quarter := hb
  show pm_K p l e _ s m args below meth c 0 0 _ ρ τ D sz (0, [some (.ref 0), some (.int q), some (.int v)], [], w)
  have thr1 : pm_K p l e { frames := 7, cells := 1, slots := 6, locals := 103 } s m args below meth c 0 0 (vx_MQ below px_N (px_X ρ τ D sz w) args s 1 6 (fun q => sz ≤ q)) ρ τ D sz (7, [some (.ref 0), some (.int q), some (.int v)], [], w) := px_throw hlt hx hb hml hown hts hK (text := "no such quarter") (by decide +kernel) dt73_7 dt73_10 dt73_11 dt73_13 dt73_16 hout (Nat.le_of_ble_eq_true rfl) (Nat.le_of_ble_eq_true rfl) (Nat.le_refl 1) (Nat.le_refl 6) hlocks (Nat.le_refl 1) (Nat.le_refl 6)
  have thr2 : pm_K p l e { frames := 7, cells := 1, slots := 6, locals := 103 } s m args below meth c 0 0 (vx_MQ below px_N (px_X ρ τ D sz w) args s 1 6 (fun q => sz ≤ q)) ρ τ D sz (46, [some (.ref 0), some (.int q), some (.int v)], [], w) := px_throw hlt hx hb hml hown hts hK (text := "a quarter has no such thing") (by decide +kernel) dt73_46 dt73_49 dt73_50 dt73_52 dt73_55 hout (Nat.le_of_ble_eq_true rfl) (Nat.le_of_ble_eq_true rfl) (Nat.le_refl 1) (Nat.le_refl 6) hlocks (Nat.le_refl 1) (Nat.le_refl 6)
  refine pm_sB_ok hx hb d73_0 rfl ?_
  refine pr_callS (own := RX5) (M := 69) (av := [.int q]) (rest := []) (r := some (.int (if q < 0 then 0 else if q < 4 then 1 else 0))) (w' := w) hx hb hml hown hts hK (pm_contract (pm_ScOk_all l) ρ τ D sz aV pt_Y69 (Nat.le_refl 1) q_isQuarter) pt_Y69 (pm_in 555 (by decide +kernel) rfl) (pm_in 556 (by decide +kernel) rfl) rfl ⟨Nat.le_of_ble_eq_true rfl, Nat.le_of_ble_eq_true rfl⟩ ⟨Nat.zero_le _, Nat.zero_le _⟩ (Nat.zero_le _) rfl d73_1 ?_
  refine pr_ne hx hb d73_4 (tgt := 17) rfl (fun z => ?_) (fun _ => thr1)
  have hq : ¬ q < 0 ∧ q < 4 := by
    by_cases a : q < 0
    · rw [if_pos a] at z; exact absurd rfl z
    · rw [if_neg a] at z
      by_cases b : q < 4
      · exact ⟨a, b⟩
      · rw [if_neg b] at z; exact absurd rfl z
  refine pm_sB_ok hx hb d73_17 rfl (pr_ne hx hb d73_18 (tgt := 31) rfl (fun _ => ?_) (fun z1 => absurd ⟨hq.1, hq.2, Or.inl z1⟩ hno))
  exact pm_sB_ok hx hb d73_31 rfl (pm_sA_ok hx hb d73_32 rfl (pr_cne hx hb d73_33 (tgt := 46) rfl (fun _ => thr2) (fun z1 => absurd ⟨hq.1, hq.2, Or.inr z1⟩ hno)))
end PXT
