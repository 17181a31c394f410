/-! RULES at a configuration, for any room; throws -/
section PKR
variable {p : Program} {l : Launch} {e : Env} {R : Room} {s : State} {m : MethodId} {args : Array Value} {below : List Frame} {meth : Method} {c : Code} {cells slots : Nat} {Q : State → Prop}
variable {ρ : Nat → Nat} {τ : Nat → ClassId} {D : va_G} {sz : Nat} {aV : Nat → Nat} {cc : ByteArray} {pc tgt : Nat} {off : Int} {pl : pm_L} {st : List Value} {w w' : pm_H} {x y : Int32}
theorem pr_lt (hx : p.tables.exec = Jvm.exec) (hb : c.code = cc) (hd : decode cc pc = .ok (.ifCond .lt off, 3)) (ht : (pc : Int) + off = (tgt : Int)) (kt : x < 0 → pm_K p l e R s m args below meth c cells slots Q ρ τ D sz (tgt, pl, st, w)) (kf : ¬ x < 0 → pm_K p l e R s m args below meth c cells slots Q ρ τ D sz (pc + 3, pl, st, w)) : pm_K p l e R s m args below meth c cells slots Q ρ τ D sz (pc, pl, .int x :: st, w) := fun H locs ls h1 h2 h3 => lv_if_lt hx hb hd ht (fun z => kt z H locs ls h1 h2 h3) (fun z => kf z H locs ls h1 h2 h3)
theorem pr_ne (hx : p.tables.exec = Jvm.exec) (hb : c.code = cc) (hd : decode cc pc = .ok (.ifCond .ne off, 3)) (ht : (pc : Int) + off = (tgt : Int)) (kt : ¬ x = 0 → pm_K p l e R s m args below meth c cells slots Q ρ τ D sz (tgt, pl, st, w)) (kf : x = 0 → pm_K p l e R s m args below meth c cells slots Q ρ τ D sz (pc + 3, pl, st, w)) : pm_K p l e R s m args below meth c cells slots Q ρ τ D sz (pc, pl, .int x :: st, w) := fun H locs ls h1 h2 h3 => lv_if_ne hx hb hd ht (fun z => kt z H locs ls h1 h2 h3) (fun z => kf z H locs ls h1 h2 h3)
theorem pr_eq (hx : p.tables.exec = Jvm.exec) (hb : c.code = cc) (hd : decode cc pc = .ok (.ifCond .eq off, 3)) (ht : (pc : Int) + off = (tgt : Int)) (kt : x = 0 → pm_K p l e R s m args below meth c cells slots Q ρ τ D sz (tgt, pl, st, w)) (kf : ¬ x = 0 → pm_K p l e R s m args below meth c cells slots Q ρ τ D sz (pc + 3, pl, st, w)) : pm_K p l e R s m args below meth c cells slots Q ρ τ D sz (pc, pl, .int x :: st, w) := fun H locs ls h1 h2 h3 => lv_if_eq hx hb hd ht (fun z => kt z H locs ls h1 h2 h3) (fun z => kf z H locs ls h1 h2 h3)
theorem pr_clt (hx : p.tables.exec = Jvm.exec) (hb : c.code = cc) (hd : decode cc pc = .ok (.if_icmp .lt off, 3)) (ht : (pc : Int) + off = (tgt : Int)) (kt : x < y → pm_K p l e R s m args below meth c cells slots Q ρ τ D sz (tgt, pl, st, w)) (kf : ¬ x < y → pm_K p l e R s m args below meth c cells slots Q ρ τ D sz (pc + 3, pl, st, w)) : pm_K p l e R s m args below meth c cells slots Q ρ τ D sz (pc, pl, .int y :: .int x :: st, w) := fun H locs ls h1 h2 h3 => lv_icmp_lt hx hb hd ht (fun z => kt z H locs ls h1 h2 h3) (fun z => kf z H locs ls h1 h2 h3)
theorem pr_cgt (hx : p.tables.exec = Jvm.exec) (hb : c.code = cc) (hd : decode cc pc = .ok (.if_icmp .gt off, 3)) (ht : (pc : Int) + off = (tgt : Int)) (kt : y < x → pm_K p l e R s m args below meth c cells slots Q ρ τ D sz (tgt, pl, st, w)) (kf : ¬ y < x → pm_K p l e R s m args below meth c cells slots Q ρ τ D sz (pc + 3, pl, st, w)) : pm_K p l e R s m args below meth c cells slots Q ρ τ D sz (pc, pl, .int y :: .int x :: st, w) := fun H locs ls h1 h2 h3 => lv_icmp_gt hx hb hd ht (fun z => kt z H locs ls h1 h2 h3) (fun z => kf z H locs ls h1 h2 h3)
theorem pr_cle (hx : p.tables.exec = Jvm.exec) (hb : c.code = cc) (hd : decode cc pc = .ok (.if_icmp .le off, 3)) (ht : (pc : Int) + off = (tgt : Int)) (kt : x ≤ y → pm_K p l e R s m args below meth c cells slots Q ρ τ D sz (tgt, pl, st, w)) (kf : ¬ x ≤ y → pm_K p l e R s m args below meth c cells slots Q ρ τ D sz (pc + 3, pl, st, w)) : pm_K p l e R s m args below meth c cells slots Q ρ τ D sz (pc, pl, .int y :: .int x :: st, w) := fun H locs ls h1 h2 h3 => lv_icmp_le hx hb hd ht (fun z => kt z H locs ls h1 h2 h3) (fun z => kf z H locs ls h1 h2 h3)
theorem pr_ceq (hx : p.tables.exec = Jvm.exec) (hb : c.code = cc) (hd : decode cc pc = .ok (.if_icmp .eq off, 3)) (ht : (pc : Int) + off = (tgt : Int)) (kt : x = y → pm_K p l e R s m args below meth c cells slots Q ρ τ D sz (tgt, pl, st, w)) (kf : ¬ x = y → pm_K p l e R s m args below meth c cells slots Q ρ τ D sz (pc + 3, pl, st, w)) : pm_K p l e R s m args below meth c cells slots Q ρ τ D sz (pc, pl, .int y :: .int x :: st, w) := fun H locs ls h1 h2 h3 => lv_icmp_eq hx hb hd ht (fun z => kt z H locs ls h1 h2 h3) (fun z => kf z H locs ls h1 h2 h3)
theorem pr_cne (hx : p.tables.exec = Jvm.exec) (hb : c.code = cc) (hd : decode cc pc = .ok (.if_icmp .ne off, 3)) (ht : (pc : Int) + off = (tgt : Int)) (kt : ¬ x = y → pm_K p l e R s m args below meth c cells slots Q ρ τ D sz (tgt, pl, st, w)) (kf : x = y → pm_K p l e R s m args below meth c cells slots Q ρ τ D sz (pc + 3, pl, st, w)) : pm_K p l e R s m args below meth c cells slots Q ρ τ D sz (pc, pl, .int y :: .int x :: st, w) := fun H locs ls h1 h2 h3 => lv_icmp_ne hx hb hd ht (fun z => kt z H locs ls h1 h2 h3) (fun z => kf z H locs ls h1 h2 h3)
theorem pr_goto (hx : p.tables.exec = Jvm.exec) (hb : c.code = cc) (hd : decode cc pc = .ok (.goto off, 3)) (ht : (pc : Int) + off = (tgt : Int)) (k : pm_K p l e R s m args below meth c cells slots Q ρ τ D sz (tgt, pl, st, w)) : pm_K p l e R s m args below meth c cells slots Q ρ τ D sz (pc, pl, st, w) := fun H locs ls h1 h2 h3 => lv_goto hx hb hd ht (k H locs ls h1 h2 h3)
theorem pr_widen {c2 s2 : Nat} {cf : pm_C} (h1 : cells ≤ c2) (h2 : slots ≤ s2) (k : pm_K p l e R s m args below meth c c2 s2 Q ρ τ D sz cf) : pm_K p l e R s m args below meth c cells slots Q ρ τ D sz cf := fun H locs ls a1 a2 a3 => W.widen h1 h2 (k H locs ls a1 a2 a3)
/-- a call of a method whose contract is known: static, virtual -/
theorem pr_callS {own : String} {ix M : Nat} {av rest : List Value} {r : Option Value} (hx : p.tables.exec = Jvm.exec) (hb : c.code = cc) (hml : c.maxLocals = pl.length) (hown : s.vm.findClass own = some m.cls) (hts : ∀ w ∈ pm_tb, w.before args s = true) (hK : pm_Kn ρ τ D sz aV s s.heap) (hM : pm_Met l ρ τ D sz aV M av w r w') (hY : pt_Yp M) (q1 : Cond.methodLink own ix (pt_y M) ∈ pm_tb) (q2 : Cond.static (pt_y M) ∈ pm_tb) (hn : av.length = pt_n M)
    (hR : pt_f M + 1 ≤ R.frames ∧ 8 + (pt_l M + 11) + pt_w M ≤ R.locals) (hc : cells ≤ R.cells ∧ slots ≤ R.slots) (hsum : (rest.map fun v => v.category).sum ≤ 8) (hst : st = av.reverse ++ rest) (hd : decode cc pc = .ok (.invokestatic ix, 3)) (kk : pm_K p l e R s m args below meth c cells slots Q ρ τ D sz (pc + 3, pl, r.toList ++ rest, w')) : pm_K p l e R s m args below meth c cells slots Q ρ τ D sz (pc, pl, st, w) := by
  intro H locs ls hSim hS hl
  have hst' : st.map (pm_rn ρ) = (av.map (pm_rn ρ)).reverse ++ rest.map (pm_rn ρ) := by rw [hst, List.map_append, List.map_reverse]
  refine pm_goon (va_runS (As := av.map (pm_rn ρ)) (rest := rest.map (pm_rn ρ)) (nL := ls.size) ⟨hx, hb, hml.trans hl.1.symm, hown, hts⟩ hM ⟨callB_of (pt_n M) hts (pm_good hY) rfl rfl rfl (hts _ hY.2.1) (hts _ q1) hY.2.2.1 hR, hts _ q2⟩ ⟨pm_blind, pm_pre hK hSim hS⟩ rfl (by rw [List.length_map]; exact hn) rfl hst' (lv_room (by rw [pm_sum]; exact hsum)) hd hc) hS ?_
  intro H1 locs1 h1 h2
  have := kk H1 locs1 ls h1 h2 hl
  cases r <;> exact this
theorem pr_callV {own : String} {ix M a : Nat} {as rest : List Value} {r : Option Value} (hx : p.tables.exec = Jvm.exec) (hb : c.code = cc) (hml : c.maxLocals = pl.length) (hown : s.vm.findClass own = some m.cls) (hts : ∀ w ∈ pm_tb, w.before args s = true) (hK : pm_Kn ρ τ D sz aV s s.heap) (hM : pm_Met l ρ τ D sz aV M (.ref a :: as) w r w') (hY : pt_Yp M) (q1 : Cond.methodLink own ix (pt_y M) ∈ pm_tb) (q2 : Cond.instanceMethod (pt_y M) ∈ pm_tb) (q3 : Cond.selects (pt_y M).cls (pt_y M) (pt_y M) ∈ pm_tb) (hcl : ∃ (C : String) (T : u_T) (N : Nat), vwCl[pt_o M]? = some (C, T, N) ∧ C = (pt_y M).cls) (hw : ∃ fs, w a = some (.inr (pt_o M, fs))) (hn : as.length = pt_n M)
    (hR : pt_f M + 1 ≤ R.frames ∧ 8 + (pt_l M + 11) + pt_w M ≤ R.locals) (hc : cells ≤ R.cells ∧ slots ≤ R.slots) (hsum : (rest.map fun v => v.category).sum ≤ 8) (hst : st = as.reverse ++ .ref a :: rest) (hd : decode cc pc = .ok (.invokevirtual ix, 3)) (kk : pm_K p l e R s m args below meth c cells slots Q ρ τ D sz (pc + 3, pl, r.toList ++ rest, w')) : pm_K p l e R s m args below meth c cells slots Q ρ τ D sz (pc, pl, st, w) := by
  intro H locs ls hSim hS hl
  obtain ⟨fs, hw⟩ := hw
  obtain ⟨C, T, N, hcl, hC⟩ := hcl
  have hst' : st.map (pm_rn ρ) = (as.map (pm_rn ρ)).reverse ++ .ref (ρ a) :: rest.map (pm_rn ρ) := by rw [hst, List.map_append, List.map_reverse]; rfl
  have hP : va_P D vwCl [(ρ a, pm_cv ρ τ (.inr (pt_o M, fs)))] H := fun j q hj => by
    cases j with
    | zero => cases hj; exact (hSim.1 a _ hw).1
    | succ j => cases hj
  refine pm_goon (va_runV (C := (pt_y M).cls) (As := as.map (pm_rn ρ)) (rest := rest.map (pm_rn ρ)) (b := ρ a) (nL := ls.size) ⟨hx, hb, hml.trans hl.1.symm, hown, hts⟩ hM ⟨callB_of (pt_n M) hts (pm_good hY) rfl rfl rfl (hts _ hY.2.1) (hts _ q1) hY.2.2.1 hR, hts _ q2, hts _ q3⟩ ⟨pm_blind, ?_, pm_pre (av := .ref a :: as) hK hSim hS⟩ rfl (by rw [List.length_map]; exact hn) rfl hst' (lv_room (by rw [pm_sum]; exact hsum)) hd hc) hS ?_
  · rw [← hC]
    exact va_recv hK.1 hP hcl (q0 := 0) rfl
  · intro H1 locs1 h1 h2
    have := kk H1 locs1 ls h1 h2 hl
    cases r <;> exact this
/-! throws -/
def px_X (ρ : Nat → Nat) (τ : Nat → ClassId) (D : va_G) (sz : Nat) (w : pm_H) : String → State → State → Prop := fun E st t => E = pt_E ∧ pm_Sim ρ τ D sz w t.heap ∧ va_F (fun q => sz ≤ q) st t
def px_N : Array Value → State → Outcome → State → Prop := fun _ _ _ _ => False
def px_Met (l : Launch) (ρ : Nat → Nat) (τ : Nat → ClassId) (D : va_G) (sz : Nat) (aV : Nat → Nat) (M fr lo : Nat) (av : List Value) (w : pm_H) : Prop :=
  vx_Met l (pt_y M) (pm_ws M) { frames := fr, cells := 1, slots := 6, locals := lo } (pm_Pc ρ τ D sz aV av w) px_N (px_X ρ τ D sz w) 1 6 (fun q => sz ≤ q)
theorem px_open {M fr lo : Nat} {av : List Value} (hY : pt_Yp M) (hpl : plainName (pt_y M).cls = true) (hlen : (lg_sl av).length ≤ pt_l M)
    (body : ∀ (p : Program) (e : Env) (s : State) (m : MethodId) (args : Array Value) (below : List Frame) (meth : Method) (c : Code), p.tables.exec = Jvm.exec → c.code = pt_b M → c.maxLocals = pt_l M → s.vm.findClass (pt_cn (pt_o M)) = some m.cls → (∀ w ∈ pm_tb, w.before args s = true) → meth.locks = false → (∀ x ∈ c.exceptionTable.toList, False) → pm_Kn ρ τ D sz aV s s.heap →
      pm_K p l e { frames := fr, cells := 1, slots := 6, locals := lo } s m args below meth c 0 0 (vx_MQ below px_N (px_X ρ τ D sz w) args s 1 6 (fun q => sz ≤ q)) ρ τ D sz (0, pm_ent (pt_l M) av, [], w)) : px_Met l ρ τ D sz aV M fr lo av w := by
  refine vx_ofW (cc := pt_b M) (maxL := pt_l M) (ret := pt_r M) hpl rfl ?_
  intro p e s m args below meth c s₁ B hml htab hP
  obtain ⟨rfl, hSim, hK⟩ := hP
  have hts0 := atoms_spec (ws := pm_ws M) B.pre
  have hown : s.vm.findClass (pt_cn (pt_o M)) = some m.cls := by rw [hY.2.2.2.2]; exact findClass_of_methodNamed B.named
  rw [lg_entry_eq]
  exact body p e s m _ below meth c B.exec B.bytes hml hown (fun w hw => hts0 w (List.mem_cons_of_mem _ hw)) B.notSynchronized htab hK s.heap [] _ hSim va_S.rf (pm_ent_lh ρ av hlen)
theorem pm_Sim.kept {H H1 : Heap} (h : pm_Sim ρ τ D sz w H) (hq : ∀ q : Nat, q < H.size → H1[q]? = H[q]?) : pm_Sim ρ τ D sz w H1 :=
  ⟨fun k e0 hk => ⟨(h.1 k e0 hk).1.kept (hq _ (h.1 k e0 hk).1.lt), (h.1 k e0 hk).2⟩, h.2⟩
theorem px_x0 : ∀ w ∈ ((px_atoms RX5 106).filter vx_no).filter goodWord, w ∈ lw_tbl := by decide +kernel
def px_B : List Cond := [Cond.castable pt_E pt_E, Cond.declares (Bundle.initS "java/lang/RuntimeException"), Cond.declares (Bundle.initS "java/lang/Exception"), Cond.declares (Bundle.initS Bundle.tN)]
theorem px_x1 : ∀ w ∈ ((px_atoms RX5 106).filter vx_no).filter (fun w => !goodWord w), w ∈ px_B := by decide +kernel
theorem px_x2 : ∀ w ∈ Cond.classLink RX5 102 pt_E :: Cond.initialized pt_E :: (px_atoms RX5 106).filter vx_no, vx_ot w = true := by decide +kernel
/-- new NoSuchElementException(text), thrown -/
theorem px_throw {is mc ms : Nat} {text : String} {Qc : Array Value → State → Outcome → State → Prop} (hlt : l.stackTraces = false) (hexec : p.tables.exec = Jvm.exec) (hb : c.code = cc) (hml : c.maxLocals = pl.length) (hown : s.vm.findClass RX5 = some m.cls) (hts : ∀ w ∈ pm_tb, w.before args s = true) (hK : pm_Kn ρ τ D sz aV s s.heap) (htx : (is, text) ∈ pt_tx)
    (d0 : decode cc pc = .ok (.new 102, 3)) (d3 : decode cc (pc + 3) = .ok (.dup, 1)) (d4 : decode cc (pc + 4) = .ok (.ldc is, 2)) (d6 : decode cc (pc + 6) = .ok (.invokespecial 106, 3)) (d9 : decode cc (pc + 9) = .ok (.athrow, 1)) (hout : ∀ x ∈ c.exceptionTable.toList, False)
    (hRf : 6 ≤ R.frames) (hRl : (st.map fun v => v.category).sum + 82 ≤ R.locals) (hRc : cells + 1 ≤ R.cells) (hRs : slots + 6 ≤ R.slots) (hlocks : meth.locks = false) (hc : cells + 1 ≤ mc) (hs : slots + 6 ≤ ms) :
    pm_K p l e R s m args below meth c cells slots (vx_MQ below Qc (px_X ρ τ D sz w) args s mc ms (fun q => sz ≤ q)) ρ τ D sz (pc, pl, st, w) := by
  intro H locs ls hSim hS hl T hT X
  obtain ⟨sa, hstr⟩ := hK.2.2.2.2.2.2.2.2.1 _ htx
  have hat : ∀ w ∈ (px_atoms RX5 106).filter vx_no, w.before args s = true :=
    vx_hat (fun w hw => hts w (List.mem_filter.mpr ⟨px_x0 w hw, (List.mem_filter.mp hw).2⟩)) px_x1 (vx_c (va_Nw.use rfl hK.2.2.2.2.2.2.2.2.2.1) (vx_c (va_Nw.use rfl (hK.2.2.2.2.2.2.2.2.2.2 _ (by decide +kernel))) (vx_c (va_Nw.use rfl (hK.2.2.2.2.2.2.2.2.2.2 _ (by decide +kernel))) (vx_c (va_Nw.use rfl (hK.2.2.2.2.2.2.2.2.2.2 _ (by decide +kernel))) vx_n))))
  have htr : e.platform.stackTraces = false := (show e.platform.stackTraces = l.stackTraces by rw [X.admits.platform]).trans hlt
  have Y := vx_rebase X (R' := { frames := R.frames, locals := R.locals, cells := 1, slots := 6 }) (Nat.le_refl _) (Nat.le_refl _) hRc hRs
  obtain ⟨s', hA⟩ : ∃ z, z = (T.setVm s.vm).setFrames (.invoking m args :: below) := ⟨_, rfl⟩
  rw [← hA] at Y
  have hvm : s'.vm = s.vm := by rw [hA]; rfl
  have hhp : s'.heap = H := by rw [hA]; exact hT
  have hW0 : s.WarmedH s'.vm := by rw [hvm]; exact State.WarmedH.refl s
  have hat' : ∀ w ∈ (px_atoms RX5 106).filter vx_no, w.before args s' = true := fun w hw => vx_ot_at hW0 hvm.symm (px_x2 w (List.mem_cons_of_mem _ (List.mem_cons_of_mem _ hw))) (hat w hw)
  have hk' : (Cond.classLink RX5 102 pt_E).before args s' = true := vx_ot_at hW0 hvm.symm (px_x2 _ List.mem_cons_self) (hts _ (pm_in 591 (by decide +kernel) rfl))
  have hini' : (Cond.initialized pt_E).before args s' = true := vx_ot_at hW0 hvm.symm (px_x2 _ (List.mem_cons_of_mem _ List.mem_cons_self)) (hts _ (pm_in 77 (by decide +kernel) rfl))
  have hU' : vx_Zq Bundle.tN "UNASSIGNED_STACK" Bundle.steD (fun q => sz ≤ q) s' s'.heap := by rw [hhp]; exact vx_Zq.moved hW0.alike (hK.2.2.2.2.2.2.1.kept hS.2.1)
  have hN' : vx_Zq Bundle.tN "SUPPRESSED_SENTINEL" Bundle.listD (fun q => sz ≤ q) s' s'.heap := by rw [hhp]; exact vx_Zq.moved hW0.alike (hK.2.2.2.2.2.2.2.1.kept hS.2.1)
  have h : ∀ w ∈ px_atoms RX5 106, w.before args s' = true := vx_own hat' (vx_isRefq hU'.1) (vx_isRefq hN'.1) hU'.2.word hN'.2.word
  have hown' : s'.vm.findClass RX5 = some m.cls := by rw [hvm]; exact hown
  have hins : (Cond.instantiable pt_E 6).before args s' = true := h _ (by decide +kernel)
  have hsize : ls.size = c.maxLocals := hl.1.trans hml.symm
  obtain ⟨vm₁, cX, kX, hfX, hkX, -, -, X₁, st1⟩ := Y.newCold hexec (own := RX5) (C := pt_E) (index := 102) (n := 6) hown' hk' hins hini'
    (g := F0 m pc ls (st.map (pm_rn ρ))) rfl (by rw [hb]; exact d0) (Nat.le_refl _) (Nat.le_refl _)
  generalize hT1 : (T.setVm vm₁).pushCell { cls := cX, slots := kX.instanceTypes.map defaultValue, vm := .none } = T1 at X₁ st1
  have hcat : (Value.ref T.heap.size).category = 1 := rfl
  have hcellA : T1.heap[T.heap.size]? = some (freshCell cX kX) := by rw [← hT1]; exact State.heap_pushCell_size _ _
  have d3' : decode c.code (pc + 3) = .ok (.dup, 1) := by rw [hb]; exact d3
  have d4' : decode c.code (pc + 4) = .ok (.ldc is, 2) := by rw [hb]; exact d4
  have hstr' : vk_R RX5 is text sa s' := vk_R.warm hW0 hstr
  have hsum : ((st.map (pm_rn ρ)).map fun v => v.category).sum + 82 ≤ R.locals := by rw [pm_sum]; exact hRl
  obtain ⟨U, hsteps, hrun, hend, hW, hsame, ce, hce, hcv, hcc⟩ := px_ctor X₁ hexec htr (own := RX5) (ic := 106) hown' h (fun x hx => nomatch hx) hfX hkX hcellA (by rw [hhp, hT]; exact Nat.le_refl _) (msg := .ref sa) rfl
    (g := { method := m, pc := pc + 6, locals := ls, stack := .ref sa :: .ref T.heap.size :: .ref T.heap.size :: st.map (pm_rn ρ), locked := none }) rfl hsize rfl rfl (rest := st.map (pm_rn ρ)) rfl
    (by rw [hb]; exact d6) (by rw [hb]; exact d9) (fun x hx => absurd (hout x hx) id) hRf (by simp only [List.map_cons, List.sum_cons, hcat]; show 2 * 0 + _ + 81 ≤ R.locals; omega) hlocks
  obtain ⟨f1, f2⟩ := vx_frame hsame
  rw [hhp] at f1 f2
  have hWs : s.WarmedH U.vm := State.WarmedH.trans hW0 hW
  have hcl : s.vm.findClass pt_E = some ce.cls := by
    rw [hcc, ← hvm]
    exact hfX
  have hall : s.sameButNew ({ U with vm := s.vm } : State) locs mc ms := by
    subst hA
    obtain ⟨e1, e2⟩ := hsame
    rw [State.setFrames_setFrames] at e1
    have h2 : (T.setVm s.vm).sameButNew ({ U with vm := s.vm } : State) [] (0 + 1) (0 + 6) := ⟨e1, e2⟩
    have h3 := X.same.trans h2
    rw [List.append_nil] at h3
    exact h3.mono hc hs
  have f3 : ∀ q : Nat, q < H.size → U.heap[q]? = H[q]? := fun q hq => f2 q hq (fun z hz => nomatch hz)
  refine ⟨U, ?_, .threw T.heap.size, hrun, hend, Or.inr ⟨T.heap.size, rfl, pt_E, ce, locs, ⟨rfl, hSim.kept f3, Nat.le_trans hS.1 f1, fun q h1 h2 => by rw [f3 q (Nat.lt_of_lt_of_le h1 hS.1)]; exact hS.2.1 q h1 h2⟩, hce, hcv, hcl, hWs, hall, hS.2.2⟩⟩
  refine st1 _ ?_
  show Steps p.tables e below (T1.setTop { method := m, pc := pc + 3, locals := ls, stack := .ref T.heap.size :: st.map (pm_rn ρ), locked := none }) _
  jvm_step X₁.here [X₁.here.top, hexec, d3', Value.category]
  exact X₁.ldcString hexec (own := RX5) (text := text) (index := is) (a := sa) hown' hstr'.1 hstr'.2
    (g := { method := m, pc := pc + 4, locals := ls, stack := .ref T.heap.size :: .ref T.heap.size :: st.map (pm_rn ρ), locked := none }) rfl d4' _ hsteps
/-- behind a call that threw -/
theorem px_goon {a : Array Value} {H : Heap} {locs : List Loc} {ls : Array Slot} {st0 rest : List Value} (hr : vx_Run p l e R s m args below meth c H locs cells slots 1 6 (F0 m pc ls st0) rest (px_N a) (px_X ρ τ D sz w) (fun q => sz ≤ q)) (hS : va_S (fun q => sz ≤ q) s.heap H locs)
    (kx : ∀ (ce : Cell) (q9 : Addr) (H1 : Heap) (locs1 : List Loc), pm_Sim ρ τ D sz w H1 → va_S (fun q => sz ≤ q) s.heap H1 locs1 → H1[q9]? = some ce → ce.vm = .none → s.vm.findClass pt_E = some ce.cls → vx_W p l e R s m args below meth c H1 locs1 (cells + 1) (slots + 6) Q (F0 m pc ls rest) q9) : W p l e R s m args below meth c H locs cells slots Q (F0 m pc ls st0) := by
  intro T hT X
  rcases hr T hT X with ⟨v, st₀, t, T', L, h0, X', hL, e1, e2, hq, st⟩ | ⟨q, st₀, t, T', L, E, ce, h0, X', hL, e1, e2, ⟨rfl, hsim, hF⟩, hce, hcv, hcl, st⟩
  · exact hq.elim
  · obtain ⟨k1, k2, k3⟩ := vx_keep h0 e1 hS (fun q _ h => h) (fun q h => h) hL hF
    obtain ⟨t2, a1, b1⟩ := kx ce q T'.heap (locs ++ L) (by rw [e1]; exact hsim) k3 (by rw [e1]; exact hce) hcv hcl T' rfl X'
    exact ⟨t2, st.trans a1, b1⟩
end PKR
