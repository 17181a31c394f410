/-! THE LAW'S OWN METHODS WITH A HANDLER -/
def px_F : String → State → State → Prop := fun _ _ _ => False
def ph_ws (y : MethodName) (cc : ByteArray) (maxL : Nat) (hh : List (Nat × Nat × Nat × Nat)) : List Cond := Cond.codeWith y cc maxL (some .int) hh :: pm_tb
def ph_Met (l : Launch) (ρ : Nat → Nat) (τ : Nat → ClassId) (D : va_G) (sz : Nat) (aV : Nat → Nat) (y : MethodName) (cc : ByteArray) (maxL : Nat) (hh : List (Nat × Nat × Nat × Nat)) (av : List Value) (w : pm_H) (r : Int32) (w' : pm_H) : Prop :=
  vx_Met l y (ph_ws y cc maxL hh) { frames := 8, cells := 1, slots := 6, locals := 200 } (pm_Pc ρ τ D sz aV av w) (pm_Qc ρ τ D sz (some (.int r)) w') px_F 1 6 (fun q => sz ≤ q)
section PHL
variable {l : Launch} {ρ : Nat → Nat} {τ : Nat → ClassId} {D : va_G} {sz : Nat} {aV : Nat → Nat} {w w1 w' : pm_H}
theorem ph_open {y : MethodName} {cc : ByteArray} {maxL : Nat} {hh : List (Nat × Nat × Nat × Nat)} {av : List Value} {r : Int32} (hy : y.cls = RL) (hlen : (lg_sl av).length ≤ maxL)
    (body : ∀ (p : Program) (e : Env) (s : State) (m : MethodId) (args : Array Value) (below : List Frame) (meth : Method) (c : Code), p.tables.exec = Jvm.exec → c.code = cc → c.maxLocals = maxL → s.vm.findClass RL = some m.cls → (∀ w ∈ pm_tb, w.before args s = true) → meth.sig.returnType = some .int → meth.locks = false → c.exceptionTable.toList = tableOf hh → pm_Kn ρ τ D sz aV s s.heap →
      pm_K p l e { frames := 8, cells := 1, slots := 6, locals := 200 } s m args below meth c 0 0 (vx_MQ below (pm_Qc ρ τ D sz (some (.int r)) w') px_F args s 1 6 (fun q => sz ≤ q)) ρ τ D sz (0, pm_ent maxL av, [], w)) : ph_Met l ρ τ D sz aV y cc maxL hh av w r w' := by
  refine vx_ofWH (cc := cc) (maxL := maxL) (ret := some .int) (hh := hh) (by rw [hy]; decide +kernel) rfl ?_
  intro p e s m args below meth c s₁ B hml hP
  obtain ⟨rfl, hSim, hK⟩ := hP
  have hts0 := atoms_spec (ws := ph_ws y cc maxL hh) B.pre
  have hown : s.vm.findClass RL = some m.cls := by rw [← hy]; exact findClass_of_methodNamed B.named
  rw [lg_entry_eq]
  exact body p e s m _ below meth c B.exec B.bytes hml hown (fun w hw => hts0 w (List.mem_cons_of_mem _ hw)) B.returns B.notSynchronized (vx_table (x := y) B (hts0 _ List.mem_cons_self)) hK s.heap [] _ hSim va_S.rf (pm_ent_lh ρ av hlen)
variable {p : Program} {e : Env} {R : Room} {s : State} {m : MethodId} {args : Array Value} {below : List Frame} {meth : Method} {c : Code} {cc : ByteArray} {pc : Nat} {pl : pm_L}
theorem ph_fin {r : Int32} (hx : p.tables.exec = Jvm.exec) (hb : c.code = cc) (hr : meth.sig.returnType = some .int) (hlocks : meth.locks = false) (hd : decode cc pc = .ok (.ireturn, 1)) : pm_K p l e R s m args below meth c 0 0 (vx_MQ below (pm_Qc ρ τ D sz (some (.int r)) w) px_F args s 1 6 (fun q => sz ≤ q)) ρ τ D sz (pc, pl, [.int r], w) :=
  pr_widen (c2 := 1) (s2 := 6) (Nat.zero_le _) (Nat.zero_le _) (fun H locs ls h1 h2 h3 => vx_ret (pm_fin_ok (r := some (.int r)) hx hb hr hlocks hd rfl H locs ls h1 h2 h3))
/-- the desk's method throws: caught, 1 -/
theorem ph_thr {ix M k h1 h2 : Nat} {as : List Value} (hx : p.tables.exec = Jvm.exec) (hb : c.code = cc) (hml : c.maxLocals = pl.length) (hown : s.vm.findClass RL = some m.cls) (hts : ∀ w ∈ pm_tb, w.before args s = true) (hr : meth.sig.returnType = some .int) (hlocks : meth.locks = false) (htab : c.exceptionTable.toList = tableOf [(0, h1, h2, 13)]) (hK : pm_Kn ρ τ D sz aV s s.heap)
    (hM : px_Met l ρ τ D sz aV M 7 103 (.ref 0 :: as) w) (hY : pt_Yp M) (q1 : Cond.methodLink RL ix (pt_y M) ∈ pm_tb) (q2 : Cond.instanceMethod (pt_y M) ∈ pm_tb) (q3 : Cond.selects (pt_y M).cls (pt_y M) (pt_y M) ∈ pm_tb) (hcl : (pt_y M).cls = RX5) (hw : ∃ fs, w 0 = some (.inr (5, fs))) (hn : as.length = pt_n M) (hlo : 8 + (pt_l M + 11) + 103 ≤ 200)
    (hd : decode cc pc = .ok (.invokevirtual ix, 3)) (hpc : pc < h1) (hk : k < pl.length) (e1 : decode cc h2 = .ok (.astore k, 2)) (e2 : decode cc (h2 + 2) = .ok (.iconst 1, 1)) (e3 : decode cc (h2 + 2 + 1) = .ok (.ireturn, 1)) :
    pm_K p l e { frames := 8, cells := 1, slots := 6, locals := 200 } s m args below meth c 0 0 (vx_MQ below (pm_Qc ρ τ D sz (some (.int 1)) w) px_F args s 1 6 (fun q => sz ≤ q)) ρ τ D sz (pc, pl, as.reverse ++ .ref 0 :: [.int 0, .ref 300], w) := by
  intro H locs ls hSim hS hl
  obtain ⟨fs, hw⟩ := hw
  have hP : va_P D vwCl [(ρ 0, pm_cv ρ τ (.inr (5, fs)))] H := fun j q hj => by
    cases j with
    | zero => cases hj; exact (hSim.1 0 _ hw).1
    | succ j => cases hj
  have hst : (as.reverse ++ Value.ref 0 :: [Value.int 0, Value.ref 300]).map (pm_rn ρ) = (as.map (pm_rn ρ)).reverse ++ Value.ref (ρ 0) :: [Value.int 0, Value.ref (ρ 300)] := by rw [List.map_append, List.map_reverse]; rfl
  refine px_goon (vx_runV (C := (pt_y M).cls) (As := as.map (pm_rn ρ)) (rest := [.int 0, .ref (ρ 300)]) (b := ρ 0) (nL := ls.size) ⟨hx, hb, hml.trans hl.1.symm, hown, hts⟩ hM ⟨callB_of (pt_n M) hts (pm_good hY) rfl rfl rfl (hts _ hY.2.1) (hts _ q1) hY.2.2.1 ⟨Nat.le_refl 8, hlo⟩, hts _ q2, hts _ q3⟩ ⟨pm_blind, ?_, pm_pre (av := .ref 0 :: as) hK hSim hS⟩ rfl (by rw [List.length_map]; exact hn) rfl hst (lv_room (Nat.le_of_ble_eq_true rfl)) hd ⟨Nat.le_refl 1, Nat.le_refl 6⟩) hS ?_
  · rw [hcl]
    exact va_recv hK.1 hP (show vwCl[5]? = some (RX5, TX5, 7) from rfl) (q0 := 0) rfl
  · intro ce q9 H1 locs1 hSim1 hS1 hc hv hcl9
    refine vx_catch (own := RL) (name := pt_E) (E := pt_E) hown [] _ [] htab (fun z hz => nomatch hz) ?_ (by show (13 : Nat) ≠ 0; decide) (show (Cond.classLink RL 13 pt_E).before args s = true from hts _ (pm_in 586 (by decide +kernel) rfl)) (va_Nw.use rfl hK.2.2.2.2.2.2.2.2.2.1) hc hv hcl9 ?_
    · show covers _ pc = true
      simp [covers, hpc]
    · show W p l e _ s m args below meth c H1 locs1 (0 + 1) (0 + 6) _ (F0 m h2 ls [.ref q9])
      refine lv_astore hx hb e1 hl.has hk rfl (fun ls' _ => ?_)
      refine lv_iconst hx hb e2 (v := 1) rfl ?_
      exact vx_ret (W.iret hx hb hr (fun t ht _ => ⟨⟨rfl, by rw [ht]; exact hSim1⟩, hS1.F ht⟩) hS1.2.2 e3 hlocks)
theorem dh0_0 : decode cL_quarter 0 = .ok (.aload_n 3, 1) := by decide +kernel
theorem dh0_1 : decode cL_quarter 1 = .ok (.iconst 0, 1) := by decide +kernel
theorem dh0_2 : decode cL_quarter 2 = .ok (.aload_n 0, 1) := by decide +kernel
theorem dh0_3 : decode cL_quarter 3 = .ok (.iload_n 1, 1) := by decide +kernel
theorem dh0_4 : decode cL_quarter 4 = .ok (.iload_n 2, 1) := by decide +kernel
theorem dh0_5 : decode cL_quarter 5 = .ok (.invokevirtual 7, 3) := by decide +kernel
theorem dh0_8 : decode cL_quarter 8 = .ok (.i2l, 1) := by decide +kernel
theorem dh0_9 : decode cL_quarter 9 = .ok (.lastore, 1) := by decide +kernel
theorem dh0_10 : decode cL_quarter 10 = .ok (.goto 7, 3) := by decide +kernel
theorem dh0_13 : decode cL_quarter 13 = .ok (.astore 4, 2) := by decide +kernel
theorem dh0_15 : decode cL_quarter 15 = .ok (.iconst 1, 1) := by decide +kernel
theorem dh0_16 : decode cL_quarter 16 = .ok (.ireturn, 1) := by decide +kernel
theorem dh0_17 : decode cL_quarter 17 = .ok (.iconst 0, 1) := by decide +kernel
theorem dh0_18 : decode cL_quarter 18 = .ok (.ireturn, 1) := by decide +kernel
theorem ph_no0 {a b : Int32} (hM : px_Met l ρ τ D sz aV 73 7 103 [.ref 0, .int a, .int b] w) (hw : ∃ fs, w 0 = some (.inr (5, fs))) : ph_Met l ρ τ D sz aV yL_quarter cL_quarter 5 [(0, 10, 13, 13)] [.ref 0, .int a, .int b, .ref 300] w 1 w := by
  refine ph_open rfl (Nat.le_of_ble_eq_true rfl) ?_
  intro p e s m args below meth c hx hb hml hown hts hr hlocks htab hK
  show pm_K p l e _ s m args below meth c 0 0 _ ρ τ D sz (0, [some (.ref 0), some (.int a), some (.int b), some (.ref 300), none], [], w)
  exact pm_sB_ok hx hb dh0_0 rfl (pm_sA_ok hx hb dh0_1 rfl (pm_sB_ok hx hb dh0_2 rfl (pm_sB_ok hx hb dh0_3 rfl (pm_sB_ok hx hb dh0_4 rfl (ph_thr (as := [.int a, .int b]) (k := 4) hx hb hml hown hts hr hlocks htab hK hM pt_Y73 (pm_in 587 (by decide +kernel) rfl) (pm_in 588 (by decide +kernel) rfl) (pm_in 589 (by decide +kernel) rfl) rfl hw rfl (Nat.le_of_ble_eq_true rfl) dh0_5 (Nat.le_of_ble_eq_true rfl) (Nat.le_of_ble_eq_true rfl) dh0_13 dh0_15 dh0_16)))))
theorem ph_ok0 {a b : Int32} {x : Int32} {o0 : Nat → Int64} (hM : pm_call 73 [.ref 0, .int a, .int b] w = some (some (.int x), w1)) (hw : ∃ fs, w 0 = some (.inr (5, fs))) (ho : w1 300 = some (.inl (1, 1, .inr (.inl o0)))) : ph_Met l ρ τ D sz aV yL_quarter cL_quarter 5 [(0, 10, 13, 13)] [.ref 0, .int a, .int b, .ref 300] w 0 (pm_up3 w1 (vp_updL o0 0 x.toInt64)) := by
  refine ph_open rfl (Nat.le_of_ble_eq_true rfl) ?_
  intro p e s m args below meth c hx hb hml hown hts hr hlocks htab hK
  show pm_K p l e _ s m args below meth c 0 0 _ ρ τ D sz (0, [some (.ref 0), some (.int a), some (.int b), some (.ref 300), none], [], w)
  refine pm_sB_ok hx hb dh0_0 rfl (pm_sA_ok hx hb dh0_1 rfl (pm_sB_ok hx hb dh0_2 rfl (pm_sB_ok hx hb dh0_3 rfl (pm_sB_ok hx hb dh0_4 rfl (?_)))))
  refine pr_callV (own := RL) (M := 73) (a := 0) (as := [.int a, .int b]) (rest := [.int 0, .ref 300]) (r := some (.int x)) (w' := w1) hx hb hml hown hts hK (pm_contract (pm_ScOk_all l) ρ τ D sz aV pt_Y73 (Nat.le_of_ble_eq_true rfl) hM) pt_Y73 (pm_in 587 (by decide +kernel) rfl) (pm_in 588 (by decide +kernel) rfl) (pm_in 589 (by decide +kernel) rfl) ⟨RX5, TX5, 7, rfl, rfl⟩ hw rfl ⟨Nat.le_of_ble_eq_true rfl, Nat.le_of_ble_eq_true rfl⟩ ⟨Nat.zero_le _, Nat.zero_le _⟩ (Nat.le_of_ble_eq_true rfl) rfl dh0_5 ?_
  exact pm_sF_ok hx hb dh0_8 rfl (pm_last hx hb hK (by rw [ho]; exact pm_ls_in (show vp_in (0 : Int32) 1 from vp_in_nI (n := 0) (by omega) (by omega))) dh0_9 (pr_goto hx hb dh0_10 (tgt := 17) rfl (pm_sA_ok hx hb dh0_17 rfl (ph_fin hx hb hr hlocks dh0_18))))
theorem dh1_0 : decode cL_weight 0 = .ok (.aload_n 3, 1) := by decide +kernel
theorem dh1_1 : decode cL_weight 1 = .ok (.iconst 0, 1) := by decide +kernel
theorem dh1_2 : decode cL_weight 2 = .ok (.aload_n 0, 1) := by decide +kernel
theorem dh1_3 : decode cL_weight 3 = .ok (.iload_n 1, 1) := by decide +kernel
theorem dh1_4 : decode cL_weight 4 = .ok (.iload_n 2, 1) := by decide +kernel
theorem dh1_5 : decode cL_weight 5 = .ok (.invokevirtual 15, 3) := by decide +kernel
theorem dh1_8 : decode cL_weight 8 = .ok (.lastore, 1) := by decide +kernel
theorem dh1_9 : decode cL_weight 9 = .ok (.goto 7, 3) := by decide +kernel
theorem dh1_12 : decode cL_weight 12 = .ok (.astore 4, 2) := by decide +kernel
theorem dh1_14 : decode cL_weight 14 = .ok (.iconst 1, 1) := by decide +kernel
theorem dh1_15 : decode cL_weight 15 = .ok (.ireturn, 1) := by decide +kernel
theorem dh1_16 : decode cL_weight 16 = .ok (.iconst 0, 1) := by decide +kernel
theorem dh1_17 : decode cL_weight 17 = .ok (.ireturn, 1) := by decide +kernel
theorem ph_no1 {a b : Int32} (hM : px_Met l ρ τ D sz aV 74 7 103 [.ref 0, .int a, .int b] w) (hw : ∃ fs, w 0 = some (.inr (5, fs))) : ph_Met l ρ τ D sz aV yL_weight cL_weight 5 [(0, 9, 12, 13)] [.ref 0, .int a, .int b, .ref 300] w 1 w := by
  refine ph_open rfl (Nat.le_of_ble_eq_true rfl) ?_
  intro p e s m args below meth c hx hb hml hown hts hr hlocks htab hK
  show pm_K p l e _ s m args below meth c 0 0 _ ρ τ D sz (0, [some (.ref 0), some (.int a), some (.int b), some (.ref 300), none], [], w)
  exact pm_sB_ok hx hb dh1_0 rfl (pm_sA_ok hx hb dh1_1 rfl (pm_sB_ok hx hb dh1_2 rfl (pm_sB_ok hx hb dh1_3 rfl (pm_sB_ok hx hb dh1_4 rfl (ph_thr (as := [.int a, .int b]) (k := 4) hx hb hml hown hts hr hlocks htab hK hM pt_Y74 (pm_in 660 (by decide +kernel) rfl) (pm_in 661 (by decide +kernel) rfl) (pm_in 662 (by decide +kernel) rfl) rfl hw rfl (Nat.le_of_ble_eq_true rfl) dh1_5 (Nat.le_of_ble_eq_true rfl) (Nat.le_of_ble_eq_true rfl) dh1_12 dh1_14 dh1_15)))))
theorem ph_ok1 {a b : Int32} {x : Int64} {o0 : Nat → Int64} (hM : pm_call 74 [.ref 0, .int a, .int b] w = some (some (.long x), w1)) (hw : ∃ fs, w 0 = some (.inr (5, fs))) (ho : w1 300 = some (.inl (1, 1, .inr (.inl o0)))) : ph_Met l ρ τ D sz aV yL_weight cL_weight 5 [(0, 9, 12, 13)] [.ref 0, .int a, .int b, .ref 300] w 0 (pm_up3 w1 (vp_updL o0 0 x)) := by
  refine ph_open rfl (Nat.le_of_ble_eq_true rfl) ?_
  intro p e s m args below meth c hx hb hml hown hts hr hlocks htab hK
  show pm_K p l e _ s m args below meth c 0 0 _ ρ τ D sz (0, [some (.ref 0), some (.int a), some (.int b), some (.ref 300), none], [], w)
  refine pm_sB_ok hx hb dh1_0 rfl (pm_sA_ok hx hb dh1_1 rfl (pm_sB_ok hx hb dh1_2 rfl (pm_sB_ok hx hb dh1_3 rfl (pm_sB_ok hx hb dh1_4 rfl (?_)))))
  refine pr_callV (own := RL) (M := 74) (a := 0) (as := [.int a, .int b]) (rest := [.int 0, .ref 300]) (r := some (.long x)) (w' := w1) hx hb hml hown hts hK (pm_contract (pm_ScOk_all l) ρ τ D sz aV pt_Y74 (Nat.le_of_ble_eq_true rfl) hM) pt_Y74 (pm_in 660 (by decide +kernel) rfl) (pm_in 661 (by decide +kernel) rfl) (pm_in 662 (by decide +kernel) rfl) ⟨RX5, TX5, 7, rfl, rfl⟩ hw rfl ⟨Nat.le_of_ble_eq_true rfl, Nat.le_of_ble_eq_true rfl⟩ ⟨Nat.zero_le _, Nat.zero_le _⟩ (Nat.le_of_ble_eq_true rfl) rfl dh1_5 ?_
  exact pm_last hx hb hK (by rw [ho]; exact pm_ls_in (show vp_in (0 : Int32) 1 from vp_in_nI (n := 0) (by omega) (by omega))) dh1_8 (pr_goto hx hb dh1_9 (tgt := 16) rfl (pm_sA_ok hx hb dh1_16 rfl (ph_fin hx hb hr hlocks dh1_17)))
theorem dh2_0 : decode cL_adds 0 = .ok (.aload 5, 2) := by decide +kernel
theorem dh2_2 : decode cL_adds 2 = .ok (.iconst 0, 1) := by decide +kernel
theorem dh2_3 : decode cL_adds 3 = .ok (.aload_n 0, 1) := by decide +kernel
theorem dh2_4 : decode cL_adds 4 = .ok (.iload_n 1, 1) := by decide +kernel
theorem dh2_5 : decode cL_adds 5 = .ok (.iload_n 2, 1) := by decide +kernel
theorem dh2_6 : decode cL_adds 6 = .ok (.iload_n 3, 1) := by decide +kernel
theorem dh2_7 : decode cL_adds 7 = .ok (.iload 4, 2) := by decide +kernel
theorem dh2_9 : decode cL_adds 9 = .ok (.invokevirtual 19, 3) := by decide +kernel
theorem dh2_12 : decode cL_adds 12 = .ok (.lastore, 1) := by decide +kernel
theorem dh2_13 : decode cL_adds 13 = .ok (.goto 7, 3) := by decide +kernel
theorem dh2_16 : decode cL_adds 16 = .ok (.astore 6, 2) := by decide +kernel
theorem dh2_18 : decode cL_adds 18 = .ok (.iconst 1, 1) := by decide +kernel
theorem dh2_19 : decode cL_adds 19 = .ok (.ireturn, 1) := by decide +kernel
theorem dh2_20 : decode cL_adds 20 = .ok (.iconst 0, 1) := by decide +kernel
theorem dh2_21 : decode cL_adds 21 = .ok (.ireturn, 1) := by decide +kernel
theorem ph_no2 {a b f d : Int32} (hM : px_Met l ρ τ D sz aV 76 7 103 [.ref 0, .int a, .int b, .int f, .int d] w) (hw : ∃ fs, w 0 = some (.inr (5, fs))) : ph_Met l ρ τ D sz aV yL_adds cL_adds 7 [(0, 13, 16, 13)] [.ref 0, .int a, .int b, .int f, .int d, .ref 300] w 1 w := by
  refine ph_open rfl (Nat.le_of_ble_eq_true rfl) ?_
  intro p e s m args below meth c hx hb hml hown hts hr hlocks htab hK
  show pm_K p l e _ s m args below meth c 0 0 _ ρ τ D sz (0, [some (.ref 0), some (.int a), some (.int b), some (.int f), some (.int d), some (.ref 300), none], [], w)
  exact pm_sB_ok hx hb dh2_0 rfl (pm_sA_ok hx hb dh2_2 rfl (pm_sB_ok hx hb dh2_3 rfl (pm_sB_ok hx hb dh2_4 rfl (pm_sB_ok hx hb dh2_5 rfl (pm_sB_ok hx hb dh2_6 rfl (pm_sB_ok hx hb dh2_7 rfl (ph_thr (as := [.int a, .int b, .int f, .int d]) (k := 6) hx hb hml hown hts hr hlocks htab hK hM pt_Y76 (pm_in 679 (by decide +kernel) rfl) (pm_in 680 (by decide +kernel) rfl) (pm_in 681 (by decide +kernel) rfl) rfl hw rfl (Nat.le_of_ble_eq_true rfl) dh2_9 (Nat.le_of_ble_eq_true rfl) (Nat.le_of_ble_eq_true rfl) dh2_16 dh2_18 dh2_19)))))))
theorem ph_ok2 {a b f d : Int32} {x : Int64} {o0 : Nat → Int64} (hM : pm_call 76 [.ref 0, .int a, .int b, .int f, .int d] w = some (some (.long x), w1)) (hw : ∃ fs, w 0 = some (.inr (5, fs))) (ho : w1 300 = some (.inl (1, 1, .inr (.inl o0)))) : ph_Met l ρ τ D sz aV yL_adds cL_adds 7 [(0, 13, 16, 13)] [.ref 0, .int a, .int b, .int f, .int d, .ref 300] w 0 (pm_up3 w1 (vp_updL o0 0 x)) := by
  refine ph_open rfl (Nat.le_of_ble_eq_true rfl) ?_
  intro p e s m args below meth c hx hb hml hown hts hr hlocks htab hK
  show pm_K p l e _ s m args below meth c 0 0 _ ρ τ D sz (0, [some (.ref 0), some (.int a), some (.int b), some (.int f), some (.int d), some (.ref 300), none], [], w)
  refine pm_sB_ok hx hb dh2_0 rfl (pm_sA_ok hx hb dh2_2 rfl (pm_sB_ok hx hb dh2_3 rfl (pm_sB_ok hx hb dh2_4 rfl (pm_sB_ok hx hb dh2_5 rfl (pm_sB_ok hx hb dh2_6 rfl (pm_sB_ok hx hb dh2_7 rfl (?_)))))))
  refine pr_callV (own := RL) (M := 76) (a := 0) (as := [.int a, .int b, .int f, .int d]) (rest := [.int 0, .ref 300]) (r := some (.long x)) (w' := w1) hx hb hml hown hts hK (pm_contract (pm_ScOk_all l) ρ τ D sz aV pt_Y76 (Nat.le_of_ble_eq_true rfl) hM) pt_Y76 (pm_in 679 (by decide +kernel) rfl) (pm_in 680 (by decide +kernel) rfl) (pm_in 681 (by decide +kernel) rfl) ⟨RX5, TX5, 7, rfl, rfl⟩ hw rfl ⟨Nat.le_of_ble_eq_true rfl, Nat.le_of_ble_eq_true rfl⟩ ⟨Nat.zero_le _, Nat.zero_le _⟩ (Nat.le_of_ble_eq_true rfl) rfl dh2_9 ?_
  exact pm_last hx hb hK (by rw [ho]; exact pm_ls_in (show vp_in (0 : Int32) 1 from vp_in_nI (n := 0) (by omega) (by omega))) dh2_12 (pr_goto hx hb dh2_13 (tgt := 20) rfl (pm_sA_ok hx hb dh2_20 rfl (ph_fin hx hb hr hlocks dh2_21)))
theorem dh3_0 : decode cL_run 0 = .ok (.aload 4, 2) := by decide +kernel
theorem dh3_2 : decode cL_run 2 = .ok (.iconst 0, 1) := by decide +kernel
theorem dh3_3 : decode cL_run 3 = .ok (.aload_n 0, 1) := by decide +kernel
theorem dh3_4 : decode cL_run 4 = .ok (.iload_n 1, 1) := by decide +kernel
theorem dh3_5 : decode cL_run 5 = .ok (.iload_n 2, 1) := by decide +kernel
theorem dh3_6 : decode cL_run 6 = .ok (.iload_n 3, 1) := by decide +kernel
theorem dh3_7 : decode cL_run 7 = .ok (.invokevirtual 23, 3) := by decide +kernel
theorem dh3_10 : decode cL_run 10 = .ok (.i2l, 1) := by decide +kernel
theorem dh3_11 : decode cL_run 11 = .ok (.lastore, 1) := by decide +kernel
theorem dh3_12 : decode cL_run 12 = .ok (.goto 7, 3) := by decide +kernel
theorem dh3_15 : decode cL_run 15 = .ok (.astore 5, 2) := by decide +kernel
theorem dh3_17 : decode cL_run 17 = .ok (.iconst 1, 1) := by decide +kernel
theorem dh3_18 : decode cL_run 18 = .ok (.ireturn, 1) := by decide +kernel
theorem dh3_19 : decode cL_run 19 = .ok (.iconst 0, 1) := by decide +kernel
theorem dh3_20 : decode cL_run 20 = .ok (.ireturn, 1) := by decide +kernel
theorem ph_no3 {a b f : Int32} (hM : px_Met l ρ τ D sz aV 77 7 103 [.ref 0, .int a, .int b, .int f] w) (hw : ∃ fs, w 0 = some (.inr (5, fs))) : ph_Met l ρ τ D sz aV yL_run cL_run 6 [(0, 12, 15, 13)] [.ref 0, .int a, .int b, .int f, .ref 300] w 1 w := by
  refine ph_open rfl (Nat.le_of_ble_eq_true rfl) ?_
  intro p e s m args below meth c hx hb hml hown hts hr hlocks htab hK
  show pm_K p l e _ s m args below meth c 0 0 _ ρ τ D sz (0, [some (.ref 0), some (.int a), some (.int b), some (.int f), some (.ref 300), none], [], w)
  exact pm_sB_ok hx hb dh3_0 rfl (pm_sA_ok hx hb dh3_2 rfl (pm_sB_ok hx hb dh3_3 rfl (pm_sB_ok hx hb dh3_4 rfl (pm_sB_ok hx hb dh3_5 rfl (pm_sB_ok hx hb dh3_6 rfl (ph_thr (as := [.int a, .int b, .int f]) (k := 5) hx hb hml hown hts hr hlocks htab hK hM pt_Y77 (pm_in 718 (by decide +kernel) rfl) (pm_in 719 (by decide +kernel) rfl) (pm_in 720 (by decide +kernel) rfl) rfl hw rfl (Nat.le_of_ble_eq_true rfl) dh3_7 (Nat.le_of_ble_eq_true rfl) (Nat.le_of_ble_eq_true rfl) dh3_15 dh3_17 dh3_18))))))
theorem ph_ok3 {a b f : Int32} {x : Int32} {o0 : Nat → Int64} (hM : pm_call 77 [.ref 0, .int a, .int b, .int f] w = some (some (.int x), w1)) (hw : ∃ fs, w 0 = some (.inr (5, fs))) (ho : w1 300 = some (.inl (1, 1, .inr (.inl o0)))) : ph_Met l ρ τ D sz aV yL_run cL_run 6 [(0, 12, 15, 13)] [.ref 0, .int a, .int b, .int f, .ref 300] w 0 (pm_up3 w1 (vp_updL o0 0 x.toInt64)) := by
  refine ph_open rfl (Nat.le_of_ble_eq_true rfl) ?_
  intro p e s m args below meth c hx hb hml hown hts hr hlocks htab hK
  show pm_K p l e _ s m args below meth c 0 0 _ ρ τ D sz (0, [some (.ref 0), some (.int a), some (.int b), some (.int f), some (.ref 300), none], [], w)
  refine pm_sB_ok hx hb dh3_0 rfl (pm_sA_ok hx hb dh3_2 rfl (pm_sB_ok hx hb dh3_3 rfl (pm_sB_ok hx hb dh3_4 rfl (pm_sB_ok hx hb dh3_5 rfl (pm_sB_ok hx hb dh3_6 rfl (?_))))))
  refine pr_callV (own := RL) (M := 77) (a := 0) (as := [.int a, .int b, .int f]) (rest := [.int 0, .ref 300]) (r := some (.int x)) (w' := w1) hx hb hml hown hts hK (pm_contract (pm_ScOk_all l) ρ τ D sz aV pt_Y77 (Nat.le_of_ble_eq_true rfl) hM) pt_Y77 (pm_in 718 (by decide +kernel) rfl) (pm_in 719 (by decide +kernel) rfl) (pm_in 720 (by decide +kernel) rfl) ⟨RX5, TX5, 7, rfl, rfl⟩ hw rfl ⟨Nat.le_of_ble_eq_true rfl, Nat.le_of_ble_eq_true rfl⟩ ⟨Nat.zero_le _, Nat.zero_le _⟩ (Nat.le_of_ble_eq_true rfl) rfl dh3_7 ?_
  exact pm_sF_ok hx hb dh3_10 rfl (pm_last hx hb hK (by rw [ho]; exact pm_ls_in (show vp_in (0 : Int32) 1 from vp_in_nI (n := 0) (by omega) (by omega))) dh3_11 (pr_goto hx hb dh3_12 (tgt := 19) rfl (pm_sA_ok hx hb dh3_19 rfl (ph_fin hx hb hr hlocks dh3_20))))
theorem dh4_0 : decode cL_rank 0 = .ok (.aload 4, 2) := by decide +kernel
theorem dh4_2 : decode cL_rank 2 = .ok (.iconst 0, 1) := by decide +kernel
theorem dh4_3 : decode cL_rank 3 = .ok (.aload_n 0, 1) := by decide +kernel
theorem dh4_4 : decode cL_rank 4 = .ok (.iload_n 1, 1) := by decide +kernel
theorem dh4_5 : decode cL_rank 5 = .ok (.iload_n 2, 1) := by decide +kernel
theorem dh4_6 : decode cL_rank 6 = .ok (.iload_n 3, 1) := by decide +kernel
theorem dh4_7 : decode cL_rank 7 = .ok (.invokevirtual 27, 3) := by decide +kernel
theorem dh4_10 : decode cL_rank 10 = .ok (.i2l, 1) := by decide +kernel
theorem dh4_11 : decode cL_rank 11 = .ok (.lastore, 1) := by decide +kernel
theorem dh4_12 : decode cL_rank 12 = .ok (.goto 7, 3) := by decide +kernel
theorem dh4_15 : decode cL_rank 15 = .ok (.astore 5, 2) := by decide +kernel
theorem dh4_17 : decode cL_rank 17 = .ok (.iconst 1, 1) := by decide +kernel
theorem dh4_18 : decode cL_rank 18 = .ok (.ireturn, 1) := by decide +kernel
theorem dh4_19 : decode cL_rank 19 = .ok (.iconst 0, 1) := by decide +kernel
theorem dh4_20 : decode cL_rank 20 = .ok (.ireturn, 1) := by decide +kernel
theorem ph_no4 {a b f : Int32} (hM : px_Met l ρ τ D sz aV 78 7 103 [.ref 0, .int a, .int b, .int f] w) (hw : ∃ fs, w 0 = some (.inr (5, fs))) : ph_Met l ρ τ D sz aV yL_rank cL_rank 6 [(0, 12, 15, 13)] [.ref 0, .int a, .int b, .int f, .ref 300] w 1 w := by
  refine ph_open rfl (Nat.le_of_ble_eq_true rfl) ?_
  intro p e s m args below meth c hx hb hml hown hts hr hlocks htab hK
  show pm_K p l e _ s m args below meth c 0 0 _ ρ τ D sz (0, [some (.ref 0), some (.int a), some (.int b), some (.int f), some (.ref 300), none], [], w)
  exact pm_sB_ok hx hb dh4_0 rfl (pm_sA_ok hx hb dh4_2 rfl (pm_sB_ok hx hb dh4_3 rfl (pm_sB_ok hx hb dh4_4 rfl (pm_sB_ok hx hb dh4_5 rfl (pm_sB_ok hx hb dh4_6 rfl (ph_thr (as := [.int a, .int b, .int f]) (k := 5) hx hb hml hown hts hr hlocks htab hK hM pt_Y78 (pm_in 768 (by decide +kernel) rfl) (pm_in 769 (by decide +kernel) rfl) (pm_in 770 (by decide +kernel) rfl) rfl hw rfl (Nat.le_of_ble_eq_true rfl) dh4_7 (Nat.le_of_ble_eq_true rfl) (Nat.le_of_ble_eq_true rfl) dh4_15 dh4_17 dh4_18))))))
theorem ph_ok4 {a b f : Int32} {x : Int32} {o0 : Nat → Int64} (hM : pm_call 78 [.ref 0, .int a, .int b, .int f] w = some (some (.int x), w1)) (hw : ∃ fs, w 0 = some (.inr (5, fs))) (ho : w1 300 = some (.inl (1, 1, .inr (.inl o0)))) : ph_Met l ρ τ D sz aV yL_rank cL_rank 6 [(0, 12, 15, 13)] [.ref 0, .int a, .int b, .int f, .ref 300] w 0 (pm_up3 w1 (vp_updL o0 0 x.toInt64)) := by
  refine ph_open rfl (Nat.le_of_ble_eq_true rfl) ?_
  intro p e s m args below meth c hx hb hml hown hts hr hlocks htab hK
  show pm_K p l e _ s m args below meth c 0 0 _ ρ τ D sz (0, [some (.ref 0), some (.int a), some (.int b), some (.int f), some (.ref 300), none], [], w)
  refine pm_sB_ok hx hb dh4_0 rfl (pm_sA_ok hx hb dh4_2 rfl (pm_sB_ok hx hb dh4_3 rfl (pm_sB_ok hx hb dh4_4 rfl (pm_sB_ok hx hb dh4_5 rfl (pm_sB_ok hx hb dh4_6 rfl (?_))))))
  refine pr_callV (own := RL) (M := 78) (a := 0) (as := [.int a, .int b, .int f]) (rest := [.int 0, .ref 300]) (r := some (.int x)) (w' := w1) hx hb hml hown hts hK (pm_contract (pm_ScOk_all l) ρ τ D sz aV pt_Y78 (Nat.le_of_ble_eq_true rfl) hM) pt_Y78 (pm_in 768 (by decide +kernel) rfl) (pm_in 769 (by decide +kernel) rfl) (pm_in 770 (by decide +kernel) rfl) ⟨RX5, TX5, 7, rfl, rfl⟩ hw rfl ⟨Nat.le_of_ble_eq_true rfl, Nat.le_of_ble_eq_true rfl⟩ ⟨Nat.zero_le _, Nat.zero_le _⟩ (Nat.le_of_ble_eq_true rfl) rfl dh4_7 ?_
  exact pm_sF_ok hx hb dh4_10 rfl (pm_last hx hb hK (by rw [ho]; exact pm_ls_in (show vp_in (0 : Int32) 1 from vp_in_nI (n := 0) (by omega) (by omega))) dh4_11 (pr_goto hx hb dh4_12 (tgt := 19) rfl (pm_sA_ok hx hb dh4_19 rfl (ph_fin hx hb hr hlocks dh4_20))))
theorem dh5_0 : decode cL_without 0 = .ok (.aload 4, 2) := by decide +kernel
theorem dh5_2 : decode cL_without 2 = .ok (.iconst 0, 1) := by decide +kernel
theorem dh5_3 : decode cL_without 3 = .ok (.aload_n 0, 1) := by decide +kernel
theorem dh5_4 : decode cL_without 4 = .ok (.iload_n 1, 1) := by decide +kernel
theorem dh5_5 : decode cL_without 5 = .ok (.iload_n 2, 1) := by decide +kernel
theorem dh5_6 : decode cL_without 6 = .ok (.iload_n 3, 1) := by decide +kernel
theorem dh5_7 : decode cL_without 7 = .ok (.invokevirtual 30, 3) := by decide +kernel
theorem dh5_10 : decode cL_without 10 = .ok (.i2l, 1) := by decide +kernel
theorem dh5_11 : decode cL_without 11 = .ok (.lastore, 1) := by decide +kernel
theorem dh5_12 : decode cL_without 12 = .ok (.goto 7, 3) := by decide +kernel
theorem dh5_15 : decode cL_without 15 = .ok (.astore 5, 2) := by decide +kernel
theorem dh5_17 : decode cL_without 17 = .ok (.iconst 1, 1) := by decide +kernel
theorem dh5_18 : decode cL_without 18 = .ok (.ireturn, 1) := by decide +kernel
theorem dh5_19 : decode cL_without 19 = .ok (.iconst 0, 1) := by decide +kernel
theorem dh5_20 : decode cL_without 20 = .ok (.ireturn, 1) := by decide +kernel
theorem ph_no5 {a b f : Int32} (hM : px_Met l ρ τ D sz aV 79 7 103 [.ref 0, .int a, .int b, .int f] w) (hw : ∃ fs, w 0 = some (.inr (5, fs))) : ph_Met l ρ τ D sz aV yL_without cL_without 6 [(0, 12, 15, 13)] [.ref 0, .int a, .int b, .int f, .ref 300] w 1 w := by
  refine ph_open rfl (Nat.le_of_ble_eq_true rfl) ?_
  intro p e s m args below meth c hx hb hml hown hts hr hlocks htab hK
  show pm_K p l e _ s m args below meth c 0 0 _ ρ τ D sz (0, [some (.ref 0), some (.int a), some (.int b), some (.int f), some (.ref 300), none], [], w)
  exact pm_sB_ok hx hb dh5_0 rfl (pm_sA_ok hx hb dh5_2 rfl (pm_sB_ok hx hb dh5_3 rfl (pm_sB_ok hx hb dh5_4 rfl (pm_sB_ok hx hb dh5_5 rfl (pm_sB_ok hx hb dh5_6 rfl (ph_thr (as := [.int a, .int b, .int f]) (k := 5) hx hb hml hown hts hr hlocks htab hK hM pt_Y79 (pm_in 775 (by decide +kernel) rfl) (pm_in 776 (by decide +kernel) rfl) (pm_in 777 (by decide +kernel) rfl) rfl hw rfl (Nat.le_of_ble_eq_true rfl) dh5_7 (Nat.le_of_ble_eq_true rfl) (Nat.le_of_ble_eq_true rfl) dh5_15 dh5_17 dh5_18))))))
theorem ph_ok5 {a b f : Int32} {x : Int32} {o0 : Nat → Int64} (hM : pm_call 79 [.ref 0, .int a, .int b, .int f] w = some (some (.int x), w1)) (hw : ∃ fs, w 0 = some (.inr (5, fs))) (ho : w1 300 = some (.inl (1, 1, .inr (.inl o0)))) : ph_Met l ρ τ D sz aV yL_without cL_without 6 [(0, 12, 15, 13)] [.ref 0, .int a, .int b, .int f, .ref 300] w 0 (pm_up3 w1 (vp_updL o0 0 x.toInt64)) := by
  refine ph_open rfl (Nat.le_of_ble_eq_true rfl) ?_
  intro p e s m args below meth c hx hb hml hown hts hr hlocks htab hK
  show pm_K p l e _ s m args below meth c 0 0 _ ρ τ D sz (0, [some (.ref 0), some (.int a), some (.int b), some (.int f), some (.ref 300), none], [], w)
  refine pm_sB_ok hx hb dh5_0 rfl (pm_sA_ok hx hb dh5_2 rfl (pm_sB_ok hx hb dh5_3 rfl (pm_sB_ok hx hb dh5_4 rfl (pm_sB_ok hx hb dh5_5 rfl (pm_sB_ok hx hb dh5_6 rfl (?_))))))
  refine pr_callV (own := RL) (M := 79) (a := 0) (as := [.int a, .int b, .int f]) (rest := [.int 0, .ref 300]) (r := some (.int x)) (w' := w1) hx hb hml hown hts hK (pm_contract (pm_ScOk_all l) ρ τ D sz aV pt_Y79 (Nat.le_of_ble_eq_true rfl) hM) pt_Y79 (pm_in 775 (by decide +kernel) rfl) (pm_in 776 (by decide +kernel) rfl) (pm_in 777 (by decide +kernel) rfl) ⟨RX5, TX5, 7, rfl, rfl⟩ hw rfl ⟨Nat.le_of_ble_eq_true rfl, Nat.le_of_ble_eq_true rfl⟩ ⟨Nat.zero_le _, Nat.zero_le _⟩ (Nat.le_of_ble_eq_true rfl) rfl dh5_7 ?_
  exact pm_sF_ok hx hb dh5_10 rfl (pm_last hx hb hK (by rw [ho]; exact pm_ls_in (show vp_in (0 : Int32) 1 from vp_in_nI (n := 0) (by omega) (by omega))) dh5_11 (pr_goto hx hb dh5_12 (tgt := 19) rfl (pm_sA_ok hx hb dh5_19 rfl (ph_fin hx hb hr hlocks dh5_20))))
theorem dh6_0 : decode cL_with 0 = .ok (.aload 4, 2) := by decide +kernel
theorem dh6_2 : decode cL_with 2 = .ok (.iconst 0, 1) := by decide +kernel
theorem dh6_3 : decode cL_with 3 = .ok (.aload_n 0, 1) := by decide +kernel
theorem dh6_4 : decode cL_with 4 = .ok (.iload_n 1, 1) := by decide +kernel
theorem dh6_5 : decode cL_with 5 = .ok (.iload_n 2, 1) := by decide +kernel
theorem dh6_6 : decode cL_with 6 = .ok (.iload_n 3, 1) := by decide +kernel
theorem dh6_7 : decode cL_with 7 = .ok (.invokevirtual 33, 3) := by decide +kernel
theorem dh6_10 : decode cL_with 10 = .ok (.i2l, 1) := by decide +kernel
theorem dh6_11 : decode cL_with 11 = .ok (.lastore, 1) := by decide +kernel
theorem dh6_12 : decode cL_with 12 = .ok (.goto 7, 3) := by decide +kernel
theorem dh6_15 : decode cL_with 15 = .ok (.astore 5, 2) := by decide +kernel
theorem dh6_17 : decode cL_with 17 = .ok (.iconst 1, 1) := by decide +kernel
theorem dh6_18 : decode cL_with 18 = .ok (.ireturn, 1) := by decide +kernel
theorem dh6_19 : decode cL_with 19 = .ok (.iconst 0, 1) := by decide +kernel
theorem dh6_20 : decode cL_with 20 = .ok (.ireturn, 1) := by decide +kernel
theorem ph_no6 {a b f : Int32} (hM : px_Met l ρ τ D sz aV 81 7 103 [.ref 0, .int a, .int b, .int f] w) (hw : ∃ fs, w 0 = some (.inr (5, fs))) : ph_Met l ρ τ D sz aV yL_with cL_with 6 [(0, 12, 15, 13)] [.ref 0, .int a, .int b, .int f, .ref 300] w 1 w := by
  refine ph_open rfl (Nat.le_of_ble_eq_true rfl) ?_
  intro p e s m args below meth c hx hb hml hown hts hr hlocks htab hK
  show pm_K p l e _ s m args below meth c 0 0 _ ρ τ D sz (0, [some (.ref 0), some (.int a), some (.int b), some (.int f), some (.ref 300), none], [], w)
  exact pm_sB_ok hx hb dh6_0 rfl (pm_sA_ok hx hb dh6_2 rfl (pm_sB_ok hx hb dh6_3 rfl (pm_sB_ok hx hb dh6_4 rfl (pm_sB_ok hx hb dh6_5 rfl (pm_sB_ok hx hb dh6_6 rfl (ph_thr (as := [.int a, .int b, .int f]) (k := 5) hx hb hml hown hts hr hlocks htab hK hM pt_Y81 (pm_in 786 (by decide +kernel) rfl) (pm_in 787 (by decide +kernel) rfl) (pm_in 788 (by decide +kernel) rfl) rfl hw rfl (Nat.le_of_ble_eq_true rfl) dh6_7 (Nat.le_of_ble_eq_true rfl) (Nat.le_of_ble_eq_true rfl) dh6_15 dh6_17 dh6_18))))))
theorem ph_ok6 {a b f : Int32} {x : Int32} {o0 : Nat → Int64} (hM : pm_call 81 [.ref 0, .int a, .int b, .int f] w = some (some (.int x), w1)) (hw : ∃ fs, w 0 = some (.inr (5, fs))) (ho : w1 300 = some (.inl (1, 1, .inr (.inl o0)))) : ph_Met l ρ τ D sz aV yL_with cL_with 6 [(0, 12, 15, 13)] [.ref 0, .int a, .int b, .int f, .ref 300] w 0 (pm_up3 w1 (vp_updL o0 0 x.toInt64)) := by
  refine ph_open rfl (Nat.le_of_ble_eq_true rfl) ?_
  intro p e s m args below meth c hx hb hml hown hts hr hlocks htab hK
  show pm_K p l e _ s m args below meth c 0 0 _ ρ τ D sz (0, [some (.ref 0), some (.int a), some (.int b), some (.int f), some (.ref 300), none], [], w)
  refine pm_sB_ok hx hb dh6_0 rfl (pm_sA_ok hx hb dh6_2 rfl (pm_sB_ok hx hb dh6_3 rfl (pm_sB_ok hx hb dh6_4 rfl (pm_sB_ok hx hb dh6_5 rfl (pm_sB_ok hx hb dh6_6 rfl (?_))))))
  refine pr_callV (own := RL) (M := 81) (a := 0) (as := [.int a, .int b, .int f]) (rest := [.int 0, .ref 300]) (r := some (.int x)) (w' := w1) hx hb hml hown hts hK (pm_contract (pm_ScOk_all l) ρ τ D sz aV pt_Y81 (Nat.le_of_ble_eq_true rfl) hM) pt_Y81 (pm_in 786 (by decide +kernel) rfl) (pm_in 787 (by decide +kernel) rfl) (pm_in 788 (by decide +kernel) rfl) ⟨RX5, TX5, 7, rfl, rfl⟩ hw rfl ⟨Nat.le_of_ble_eq_true rfl, Nat.le_of_ble_eq_true rfl⟩ ⟨Nat.zero_le _, Nat.zero_le _⟩ (Nat.le_of_ble_eq_true rfl) rfl dh6_7 ?_
  exact pm_sF_ok hx hb dh6_10 rfl (pm_last hx hb hK (by rw [ho]; exact pm_ls_in (show vp_in (0 : Int32) 1 from vp_in_nI (n := 0) (by omega) (by omega))) dh6_11 (pr_goto hx hb dh6_12 (tgt := 19) rfl (pm_sA_ok hx hb dh6_19 rfl (ph_fin hx hb hr hlocks dh6_20))))
theorem dh7_0 : decode cL_priced 0 = .ok (.aload 5, 2) := by decide +kernel
theorem dh7_2 : decode cL_priced 2 = .ok (.iconst 0, 1) := by decide +kernel
theorem dh7_3 : decode cL_priced 3 = .ok (.aload_n 0, 1) := by decide +kernel
theorem dh7_4 : decode cL_priced 4 = .ok (.iload_n 1, 1) := by decide +kernel
theorem dh7_5 : decode cL_priced 5 = .ok (.iload_n 2, 1) := by decide +kernel
theorem dh7_6 : decode cL_priced 6 = .ok (.iload_n 3, 1) := by decide +kernel
theorem dh7_7 : decode cL_priced 7 = .ok (.iload 4, 2) := by decide +kernel
theorem dh7_9 : decode cL_priced 9 = .ok (.invokevirtual 36, 3) := by decide +kernel
theorem dh7_12 : decode cL_priced 12 = .ok (.i2l, 1) := by decide +kernel
theorem dh7_13 : decode cL_priced 13 = .ok (.lastore, 1) := by decide +kernel
theorem dh7_14 : decode cL_priced 14 = .ok (.goto 7, 3) := by decide +kernel
theorem dh7_17 : decode cL_priced 17 = .ok (.astore 6, 2) := by decide +kernel
theorem dh7_19 : decode cL_priced 19 = .ok (.iconst 1, 1) := by decide +kernel
theorem dh7_20 : decode cL_priced 20 = .ok (.ireturn, 1) := by decide +kernel
theorem dh7_21 : decode cL_priced 21 = .ok (.iconst 0, 1) := by decide +kernel
theorem dh7_22 : decode cL_priced 22 = .ok (.ireturn, 1) := by decide +kernel
theorem ph_no7 {a b f d : Int32} (hM : px_Met l ρ τ D sz aV 82 7 103 [.ref 0, .int a, .int b, .int f, .int d] w) (hw : ∃ fs, w 0 = some (.inr (5, fs))) : ph_Met l ρ τ D sz aV yL_priced cL_priced 7 [(0, 14, 17, 13)] [.ref 0, .int a, .int b, .int f, .int d, .ref 300] w 1 w := by
  refine ph_open rfl (Nat.le_of_ble_eq_true rfl) ?_
  intro p e s m args below meth c hx hb hml hown hts hr hlocks htab hK
  show pm_K p l e _ s m args below meth c 0 0 _ ρ τ D sz (0, [some (.ref 0), some (.int a), some (.int b), some (.int f), some (.int d), some (.ref 300), none], [], w)
  exact pm_sB_ok hx hb dh7_0 rfl (pm_sA_ok hx hb dh7_2 rfl (pm_sB_ok hx hb dh7_3 rfl (pm_sB_ok hx hb dh7_4 rfl (pm_sB_ok hx hb dh7_5 rfl (pm_sB_ok hx hb dh7_6 rfl (pm_sB_ok hx hb dh7_7 rfl (ph_thr (as := [.int a, .int b, .int f, .int d]) (k := 6) hx hb hml hown hts hr hlocks htab hK hM pt_Y82 (pm_in 797 (by decide +kernel) rfl) (pm_in 798 (by decide +kernel) rfl) (pm_in 799 (by decide +kernel) rfl) rfl hw rfl (Nat.le_of_ble_eq_true rfl) dh7_9 (Nat.le_of_ble_eq_true rfl) (Nat.le_of_ble_eq_true rfl) dh7_17 dh7_19 dh7_20)))))))
theorem ph_ok7 {a b f d : Int32} {x : Int32} {o0 : Nat → Int64} (hM : pm_call 82 [.ref 0, .int a, .int b, .int f, .int d] w = some (some (.int x), w1)) (hw : ∃ fs, w 0 = some (.inr (5, fs))) (ho : w1 300 = some (.inl (1, 1, .inr (.inl o0)))) : ph_Met l ρ τ D sz aV yL_priced cL_priced 7 [(0, 14, 17, 13)] [.ref 0, .int a, .int b, .int f, .int d, .ref 300] w 0 (pm_up3 w1 (vp_updL o0 0 x.toInt64)) := by
  refine ph_open rfl (Nat.le_of_ble_eq_true rfl) ?_
  intro p e s m args below meth c hx hb hml hown hts hr hlocks htab hK
  show pm_K p l e _ s m args below meth c 0 0 _ ρ τ D sz (0, [some (.ref 0), some (.int a), some (.int b), some (.int f), some (.int d), some (.ref 300), none], [], w)
  refine pm_sB_ok hx hb dh7_0 rfl (pm_sA_ok hx hb dh7_2 rfl (pm_sB_ok hx hb dh7_3 rfl (pm_sB_ok hx hb dh7_4 rfl (pm_sB_ok hx hb dh7_5 rfl (pm_sB_ok hx hb dh7_6 rfl (pm_sB_ok hx hb dh7_7 rfl (?_)))))))
  refine pr_callV (own := RL) (M := 82) (a := 0) (as := [.int a, .int b, .int f, .int d]) (rest := [.int 0, .ref 300]) (r := some (.int x)) (w' := w1) hx hb hml hown hts hK (pm_contract (pm_ScOk_all l) ρ τ D sz aV pt_Y82 (Nat.le_of_ble_eq_true rfl) hM) pt_Y82 (pm_in 797 (by decide +kernel) rfl) (pm_in 798 (by decide +kernel) rfl) (pm_in 799 (by decide +kernel) rfl) ⟨RX5, TX5, 7, rfl, rfl⟩ hw rfl ⟨Nat.le_of_ble_eq_true rfl, Nat.le_of_ble_eq_true rfl⟩ ⟨Nat.zero_le _, Nat.zero_le _⟩ (Nat.le_of_ble_eq_true rfl) rfl dh7_9 ?_
  exact pm_sF_ok hx hb dh7_12 rfl (pm_last hx hb hK (by rw [ho]; exact pm_ls_in (show vp_in (0 : Int32) 1 from vp_in_nI (n := 0) (by omega) (by omega))) dh7_13 (pr_goto hx hb dh7_14 (tgt := 21) rfl (pm_sA_ok hx hb dh7_21 rfl (ph_fin hx hb hr hlocks dh7_22))))
theorem dh8_0 : decode cL_profit 0 = .ok (.aload 5, 2) := by decide +kernel
theorem dh8_2 : decode cL_profit 2 = .ok (.iconst 0, 1) := by decide +kernel
theorem dh8_3 : decode cL_profit 3 = .ok (.aload_n 0, 1) := by decide +kernel
theorem dh8_4 : decode cL_profit 4 = .ok (.iload_n 1, 1) := by decide +kernel
theorem dh8_5 : decode cL_profit 5 = .ok (.iload_n 2, 1) := by decide +kernel
theorem dh8_6 : decode cL_profit 6 = .ok (.iload_n 3, 1) := by decide +kernel
theorem dh8_7 : decode cL_profit 7 = .ok (.iload 4, 2) := by decide +kernel
theorem dh8_9 : decode cL_profit 9 = .ok (.invokevirtual 40, 3) := by decide +kernel
theorem dh8_12 : decode cL_profit 12 = .ok (.i2l, 1) := by decide +kernel
theorem dh8_13 : decode cL_profit 13 = .ok (.lastore, 1) := by decide +kernel
theorem dh8_14 : decode cL_profit 14 = .ok (.goto 7, 3) := by decide +kernel
theorem dh8_17 : decode cL_profit 17 = .ok (.astore 6, 2) := by decide +kernel
theorem dh8_19 : decode cL_profit 19 = .ok (.iconst 1, 1) := by decide +kernel
theorem dh8_20 : decode cL_profit 20 = .ok (.ireturn, 1) := by decide +kernel
theorem dh8_21 : decode cL_profit 21 = .ok (.iconst 0, 1) := by decide +kernel
theorem dh8_22 : decode cL_profit 22 = .ok (.ireturn, 1) := by decide +kernel
theorem ph_no8 {a b f d : Int32} (hM : px_Met l ρ τ D sz aV 83 7 103 [.ref 0, .int a, .int b, .int f, .int d] w) (hw : ∃ fs, w 0 = some (.inr (5, fs))) : ph_Met l ρ τ D sz aV yL_profit cL_profit 7 [(0, 14, 17, 13)] [.ref 0, .int a, .int b, .int f, .int d, .ref 300] w 1 w := by
  refine ph_open rfl (Nat.le_of_ble_eq_true rfl) ?_
  intro p e s m args below meth c hx hb hml hown hts hr hlocks htab hK
  show pm_K p l e _ s m args below meth c 0 0 _ ρ τ D sz (0, [some (.ref 0), some (.int a), some (.int b), some (.int f), some (.int d), some (.ref 300), none], [], w)
  exact pm_sB_ok hx hb dh8_0 rfl (pm_sA_ok hx hb dh8_2 rfl (pm_sB_ok hx hb dh8_3 rfl (pm_sB_ok hx hb dh8_4 rfl (pm_sB_ok hx hb dh8_5 rfl (pm_sB_ok hx hb dh8_6 rfl (pm_sB_ok hx hb dh8_7 rfl (ph_thr (as := [.int a, .int b, .int f, .int d]) (k := 6) hx hb hml hown hts hr hlocks htab hK hM pt_Y83 (pm_in 804 (by decide +kernel) rfl) (pm_in 805 (by decide +kernel) rfl) (pm_in 806 (by decide +kernel) rfl) rfl hw rfl (Nat.le_of_ble_eq_true rfl) dh8_9 (Nat.le_of_ble_eq_true rfl) (Nat.le_of_ble_eq_true rfl) dh8_17 dh8_19 dh8_20)))))))
theorem ph_ok8 {a b f d : Int32} {x : Int32} {o0 : Nat → Int64} (hM : pm_call 83 [.ref 0, .int a, .int b, .int f, .int d] w = some (some (.int x), w1)) (hw : ∃ fs, w 0 = some (.inr (5, fs))) (ho : w1 300 = some (.inl (1, 1, .inr (.inl o0)))) : ph_Met l ρ τ D sz aV yL_profit cL_profit 7 [(0, 14, 17, 13)] [.ref 0, .int a, .int b, .int f, .int d, .ref 300] w 0 (pm_up3 w1 (vp_updL o0 0 x.toInt64)) := by
  refine ph_open rfl (Nat.le_of_ble_eq_true rfl) ?_
  intro p e s m args below meth c hx hb hml hown hts hr hlocks htab hK
  show pm_K p l e _ s m args below meth c 0 0 _ ρ τ D sz (0, [some (.ref 0), some (.int a), some (.int b), some (.int f), some (.int d), some (.ref 300), none], [], w)
  refine pm_sB_ok hx hb dh8_0 rfl (pm_sA_ok hx hb dh8_2 rfl (pm_sB_ok hx hb dh8_3 rfl (pm_sB_ok hx hb dh8_4 rfl (pm_sB_ok hx hb dh8_5 rfl (pm_sB_ok hx hb dh8_6 rfl (pm_sB_ok hx hb dh8_7 rfl (?_)))))))
  refine pr_callV (own := RL) (M := 83) (a := 0) (as := [.int a, .int b, .int f, .int d]) (rest := [.int 0, .ref 300]) (r := some (.int x)) (w' := w1) hx hb hml hown hts hK (pm_contract (pm_ScOk_all l) ρ τ D sz aV pt_Y83 (Nat.le_of_ble_eq_true rfl) hM) pt_Y83 (pm_in 804 (by decide +kernel) rfl) (pm_in 805 (by decide +kernel) rfl) (pm_in 806 (by decide +kernel) rfl) ⟨RX5, TX5, 7, rfl, rfl⟩ hw rfl ⟨Nat.le_of_ble_eq_true rfl, Nat.le_of_ble_eq_true rfl⟩ ⟨Nat.zero_le _, Nat.zero_le _⟩ (Nat.le_of_ble_eq_true rfl) rfl dh8_9 ?_
  exact pm_sF_ok hx hb dh8_12 rfl (pm_last hx hb hK (by rw [ho]; exact pm_ls_in (show vp_in (0 : Int32) 1 from vp_in_nI (n := 0) (by omega) (by omega))) dh8_13 (pr_goto hx hb dh8_14 (tgt := 21) rfl (pm_sA_ok hx hb dh8_21 rfl (ph_fin hx hb hr hlocks dh8_22))))
theorem dh9_0 : decode cL_ifSplit 0 = .ok (.aload 4, 2) := by decide +kernel
theorem dh9_2 : decode cL_ifSplit 2 = .ok (.iconst 0, 1) := by decide +kernel
theorem dh9_3 : decode cL_ifSplit 3 = .ok (.aload_n 0, 1) := by decide +kernel
theorem dh9_4 : decode cL_ifSplit 4 = .ok (.iload_n 1, 1) := by decide +kernel
theorem dh9_5 : decode cL_ifSplit 5 = .ok (.iload_n 2, 1) := by decide +kernel
theorem dh9_6 : decode cL_ifSplit 6 = .ok (.iload_n 3, 1) := by decide +kernel
theorem dh9_7 : decode cL_ifSplit 7 = .ok (.invokevirtual 43, 3) := by decide +kernel
theorem dh9_10 : decode cL_ifSplit 10 = .ok (.i2l, 1) := by decide +kernel
theorem dh9_11 : decode cL_ifSplit 11 = .ok (.lastore, 1) := by decide +kernel
theorem dh9_12 : decode cL_ifSplit 12 = .ok (.goto 7, 3) := by decide +kernel
theorem dh9_15 : decode cL_ifSplit 15 = .ok (.astore 5, 2) := by decide +kernel
theorem dh9_17 : decode cL_ifSplit 17 = .ok (.iconst 1, 1) := by decide +kernel
theorem dh9_18 : decode cL_ifSplit 18 = .ok (.ireturn, 1) := by decide +kernel
theorem dh9_19 : decode cL_ifSplit 19 = .ok (.iconst 0, 1) := by decide +kernel
theorem dh9_20 : decode cL_ifSplit 20 = .ok (.ireturn, 1) := by decide +kernel
theorem ph_no9 {a b f : Int32} (hM : px_Met l ρ τ D sz aV 85 7 103 [.ref 0, .int a, .int b, .int f] w) (hw : ∃ fs, w 0 = some (.inr (5, fs))) : ph_Met l ρ τ D sz aV yL_ifSplit cL_ifSplit 6 [(0, 12, 15, 13)] [.ref 0, .int a, .int b, .int f, .ref 300] w 1 w := by
  refine ph_open rfl (Nat.le_of_ble_eq_true rfl) ?_
  intro p e s m args below meth c hx hb hml hown hts hr hlocks htab hK
  show pm_K p l e _ s m args below meth c 0 0 _ ρ τ D sz (0, [some (.ref 0), some (.int a), some (.int b), some (.int f), some (.ref 300), none], [], w)
  exact pm_sB_ok hx hb dh9_0 rfl (pm_sA_ok hx hb dh9_2 rfl (pm_sB_ok hx hb dh9_3 rfl (pm_sB_ok hx hb dh9_4 rfl (pm_sB_ok hx hb dh9_5 rfl (pm_sB_ok hx hb dh9_6 rfl (ph_thr (as := [.int a, .int b, .int f]) (k := 5) hx hb hml hown hts hr hlocks htab hK hM pt_Y85 (pm_in 818 (by decide +kernel) rfl) (pm_in 819 (by decide +kernel) rfl) (pm_in 820 (by decide +kernel) rfl) rfl hw rfl (Nat.le_of_ble_eq_true rfl) dh9_7 (Nat.le_of_ble_eq_true rfl) (Nat.le_of_ble_eq_true rfl) dh9_15 dh9_17 dh9_18))))))
theorem ph_ok9 {a b f : Int32} {x : Int32} {o0 : Nat → Int64} (hM : pm_call 85 [.ref 0, .int a, .int b, .int f] w = some (some (.int x), w1)) (hw : ∃ fs, w 0 = some (.inr (5, fs))) (ho : w1 300 = some (.inl (1, 1, .inr (.inl o0)))) : ph_Met l ρ τ D sz aV yL_ifSplit cL_ifSplit 6 [(0, 12, 15, 13)] [.ref 0, .int a, .int b, .int f, .ref 300] w 0 (pm_up3 w1 (vp_updL o0 0 x.toInt64)) := by
  refine ph_open rfl (Nat.le_of_ble_eq_true rfl) ?_
  intro p e s m args below meth c hx hb hml hown hts hr hlocks htab hK
  show pm_K p l e _ s m args below meth c 0 0 _ ρ τ D sz (0, [some (.ref 0), some (.int a), some (.int b), some (.int f), some (.ref 300), none], [], w)
  refine pm_sB_ok hx hb dh9_0 rfl (pm_sA_ok hx hb dh9_2 rfl (pm_sB_ok hx hb dh9_3 rfl (pm_sB_ok hx hb dh9_4 rfl (pm_sB_ok hx hb dh9_5 rfl (pm_sB_ok hx hb dh9_6 rfl (?_))))))
  refine pr_callV (own := RL) (M := 85) (a := 0) (as := [.int a, .int b, .int f]) (rest := [.int 0, .ref 300]) (r := some (.int x)) (w' := w1) hx hb hml hown hts hK (pm_contract (pm_ScOk_all l) ρ τ D sz aV pt_Y85 (Nat.le_of_ble_eq_true rfl) hM) pt_Y85 (pm_in 818 (by decide +kernel) rfl) (pm_in 819 (by decide +kernel) rfl) (pm_in 820 (by decide +kernel) rfl) ⟨RX5, TX5, 7, rfl, rfl⟩ hw rfl ⟨Nat.le_of_ble_eq_true rfl, Nat.le_of_ble_eq_true rfl⟩ ⟨Nat.zero_le _, Nat.zero_le _⟩ (Nat.le_of_ble_eq_true rfl) rfl dh9_7 ?_
  exact pm_sF_ok hx hb dh9_10 rfl (pm_last hx hb hK (by rw [ho]; exact pm_ls_in (show vp_in (0 : Int32) 1 from vp_in_nI (n := 0) (by omega) (by omega))) dh9_11 (pr_goto hx hb dh9_12 (tgt := 19) rfl (pm_sA_ok hx hb dh9_19 rfl (ph_fin hx hb hr hlocks dh9_20))))
end PHL
