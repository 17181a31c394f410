/-! THE STRING CONSTANTS' OWN METHODS: length, charAt -/
def yj_len : MethodName := ⟨"java/lang/String", "length", "()I"⟩
def yj_cod : MethodName := ⟨"java/lang/String", "coder", "()B"⟩
def yj_cha : MethodName := ⟨"java/lang/String", "charAt", "(I)C"⟩
def yj_lat : MethodName := ⟨"java/lang/String", "isLatin1", "()Z"⟩
def yj_l1 : MethodName := ⟨"java/lang/StringLatin1", "charAt", "([BI)C"⟩
def yj_chk : MethodName := ⟨"java/lang/String", "checkIndex", "(II)V"⟩
def yj_pre : MethodName := ⟨"jdk/internal/util/Preconditions", "checkIndex", "(IILjava/util/function/BiFunction;)I"⟩
abbrev bj_len : ByteArray := prog_15_method_54_code
abbrev bj_cod : ByteArray := prog_15_method_152_code
abbrev bj_cha : ByteArray := prog_15_method_56_code
abbrev bj_lat : ByteArray := prog_15_method_154_code
abbrev bj_l1 : ByteArray := prog_16_method_2_code
abbrev bj_chk : ByteArray := prog_15_method_155_code
abbrev bj_pre : ByteArray := prog_22_method_11_code
theorem dl0 : decode bj_len 0 = .ok (.aload_n 0, 1) := by decide +kernel
theorem dl1 : decode bj_len 1 = .ok (.getfield 9, 3) := by decide +kernel
theorem dl4 : decode bj_len 4 = .ok (.arraylength, 1) := by decide +kernel
theorem dl5 : decode bj_len 5 = .ok (.aload_n 0, 1) := by decide +kernel
theorem dl6 : decode bj_len 6 = .ok (.invokevirtual 335, 3) := by decide +kernel
theorem dl9 : decode bj_len 9 = .ok (.ishr, 1) := by decide +kernel
theorem dl10 : decode bj_len 10 = .ok (.ireturn, 1) := by decide +kernel
theorem dc0 : decode bj_cod 0 = .ok (.getstatic 38, 3) := by decide +kernel
theorem dc3 : decode bj_cod 3 = .ok (.ifCond .eq 10, 3) := by decide +kernel
theorem dc6 : decode bj_cod 6 = .ok (.aload_n 0, 1) := by decide +kernel
theorem dc7 : decode bj_cod 7 = .ok (.getfield 15, 3) := by decide +kernel
theorem dc10 : decode bj_cod 10 = .ok (.goto 4, 3) := by decide +kernel
theorem dc14 : decode bj_cod 14 = .ok (.ireturn, 1) := by decide +kernel
theorem da0 : decode bj_cha 0 = .ok (.aload_n 0, 1) := by decide +kernel
theorem da1 : decode bj_cha 1 = .ok (.invokevirtual 492, 3) := by decide +kernel
theorem da4 : decode bj_cha 4 = .ok (.ifCond .eq 12, 3) := by decide +kernel
theorem da7 : decode bj_cha 7 = .ok (.aload_n 0, 1) := by decide +kernel
theorem da8 : decode bj_cha 8 = .ok (.getfield 9, 3) := by decide +kernel
theorem da11 : decode bj_cha 11 = .ok (.iload_n 1, 1) := by decide +kernel
theorem da12 : decode bj_cha 12 = .ok (.invokestatic 495, 3) := by decide +kernel
theorem da15 : decode bj_cha 15 = .ok (.ireturn, 1) := by decide +kernel
theorem di0 : decode bj_lat 0 = .ok (.getstatic 38, 3) := by decide +kernel
theorem di3 : decode bj_lat 3 = .ok (.ifCond .eq 14, 3) := by decide +kernel
theorem di6 : decode bj_lat 6 = .ok (.aload_n 0, 1) := by decide +kernel
theorem di7 : decode bj_lat 7 = .ok (.getfield 15, 3) := by decide +kernel
theorem di10 : decode bj_lat 10 = .ok (.ifCond .ne 7, 3) := by decide +kernel
theorem di13 : decode bj_lat 13 = .ok (.iconst 1, 1) := by decide +kernel
theorem di14 : decode bj_lat 14 = .ok (.goto 4, 3) := by decide +kernel
theorem di18 : decode bj_lat 18 = .ok (.ireturn, 1) := by decide +kernel
theorem dk0 : decode bj_l1 0 = .ok (.iload_n 1, 1) := by decide +kernel
theorem dk1 : decode bj_l1 1 = .ok (.aload_n 0, 1) := by decide +kernel
theorem dk2 : decode bj_l1 2 = .ok (.arraylength, 1) := by decide +kernel
theorem dk3 : decode bj_l1 3 = .ok (.invokestatic 9, 3) := by decide +kernel
theorem dk6 : decode bj_l1 6 = .ok (.aload_n 0, 1) := by decide +kernel
theorem dk7 : decode bj_l1 7 = .ok (.iload_n 1, 1) := by decide +kernel
theorem dk8 : decode bj_l1 8 = .ok (.baload, 1) := by decide +kernel
theorem dk9 : decode bj_l1 9 = .ok (.sipush 255, 3) := by decide +kernel
theorem dk12 : decode bj_l1 12 = .ok (.iand, 1) := by decide +kernel
theorem dk13 : decode bj_l1 13 = .ok (.i2c, 1) := by decide +kernel
theorem dk14 : decode bj_l1 14 = .ok (.ireturn, 1) := by decide +kernel
theorem dx0 : decode bj_chk 0 = .ok (.iload_n 0, 1) := by decide +kernel
theorem dx1 : decode bj_chk 1 = .ok (.iload_n 1, 1) := by decide +kernel
theorem dx2 : decode bj_chk 2 = .ok (.getstatic 1053, 3) := by decide +kernel
theorem dx5 : decode bj_chk 5 = .ok (.invokestatic 1059, 3) := by decide +kernel
theorem dx8 : decode bj_chk 8 = .ok (.pop, 1) := by decide +kernel
theorem dx9 : decode bj_chk 9 = .ok (.return_, 1) := by decide +kernel
theorem dp0 : decode bj_pre 0 = .ok (.iload_n 0, 1) := by decide +kernel
theorem dp1 : decode bj_pre 1 = .ok (.ifCond .lt 8, 3) := by decide +kernel
theorem dp4 : decode bj_pre 4 = .ok (.iload_n 0, 1) := by decide +kernel
theorem dp5 : decode bj_pre 5 = .ok (.iload_n 1, 1) := by decide +kernel
theorem dp6 : decode bj_pre 6 = .ok (.if_icmp .lt 10, 3) := by decide +kernel
theorem dp16 : decode bj_pre 16 = .ok (.iload_n 0, 1) := by decide +kernel
theorem dp17 : decode bj_pre 17 = .ok (.ireturn, 1) := by decide +kernel
def pj_ws (y : MethodName) (cc : ByteArray) (maxL : Nat) (ret : Option FieldType) : List Cond := Cond.code y cc maxL ret :: pm_tb
theorem pj_good {y : MethodName} {cc : ByteArray} {maxL : Nat} {ret : Option FieldType} (h : Cond.code y cc maxL ret ∈ pm_tb) : GoodIn pm_tb (pj_ws y cc maxL ret) := by
  intro w hw
  have h2 : w ∈ pm_tb := by
    rcases List.mem_cons.mp hw with e | e
    · rw [e]; exact h
    · exact e
  exact ⟨h2, good_of_word (List.mem_filter.mp h2).2⟩
section PJ
variable {l : Launch} {ρ : Nat → Nat} {τ : Nat → ClassId} {D : va_G} {sz : Nat} {aV : Nat → Nat} {w : pm_H}
def pj_Pc (ρ : Nat → Nat) (τ : Nat → ClassId) (D : va_G) (sz : Nat) (aV : Nat → Nat) (vs : List Value) (w : pm_H) : Array Value → State → Prop := va_Pc vs (fun U => pm_Sim ρ τ D sz w U.heap ∧ pm_Kn ρ τ D sz aV U U.heap)
theorem pj_blind {vs : List Value} : FrameBlind (pj_Pc ρ τ D sz aV vs w) := by
  intro a U g mk h
  obtain ⟨h1, h2, h3⟩ := h
  exact ⟨h1, h2, pm_Kn.same (s := U) (U := U.calling g mk a) rfl h3⟩
def pj_Met (l : Launch) (ρ : Nat → Nat) (τ : Nat → ClassId) (D : va_G) (sz : Nat) (aV : Nat → Nat) (w : pm_H) (y : MethodName) (cc : ByteArray) (maxL : Nat) (ret : Option FieldType) (fr lo : Nat) (vs : List Value) (r : Option Value) : Prop :=
  Met l y (pj_ws y cc maxL ret) { frames := fr, cells := 0, slots := 0, locals := lo } (pj_Pc ρ τ D sz aV vs w) (pm_Qc ρ τ D sz r w) 0 0 (fun q => sz ≤ q)
theorem pj_open {y : MethodName} {cc : ByteArray} {maxL : Nat} {ret : Option FieldType} {fr lo : Nat} {vs : List Value} {r : Option Value} (hy : plainFor y = true) (hlen : (lg_sl vs).length ≤ maxL)
    (body : ∀ (p : Program) (e : Env) (s : State) (m : MethodId) (below : List Frame) (meth : Method) (c : Code) (ls : Array Slot), p.tables.exec = Jvm.exec → c.code = cc → c.maxLocals = maxL → s.vm.findClass y.cls = some m.cls → (∀ w ∈ pm_tb, w.before vs.toArray s = true) → meth.sig.returnType = ret → meth.locks = false → pm_Sim ρ τ D sz w s.heap → pm_Kn ρ τ D sz aV s s.heap → lv_has ls maxL (lv_args 0 vs) →
      W p l e { frames := fr, cells := 0, slots := 0, locals := lo } s m vs.toArray below meth c s.heap [] 0 0 (MQ below (pm_Qc ρ τ D sz r w) vs.toArray s 0 0 (fun q => sz ≤ q)) (F0 m 0 ls [])) : pj_Met l ρ τ D sz aV w y cc maxL ret fr lo vs r := by
  refine pm_ofW (cc := cc) (maxL := maxL) (ret := ret) hy rfl ?_
  intro p e s m args below meth c s₁ B hml hP
  obtain ⟨rfl, hSim, hK⟩ := hP
  have hts0 := atoms_spec (ws := pj_ws y cc maxL ret) B.pre
  have hl := lv_entry vs (n := maxL) hlen
  rw [lg_entry_eq]
  exact body p e s m below meth c _ B.exec B.bytes hml (findClass_of_methodNamed B.named) (fun w hw => hts0 w (List.mem_cons_of_mem _ hw)) B.returns B.notSynchronized hSim hK hl
variable {p : Program} {e : Env} {R : Room} {s : State} {m : MethodId} {args : Array Value} {below : List Frame} {meth : Method} {c : Code} {cells slots : Nat} {Q : State → Prop} {H : Heap} {locs : List Loc} {ls : Array Slot} {pc : Nat} {cc : ByteArray}
theorem pj_pre {vs : List Value} (hK : pm_Kn ρ τ D sz aV s s.heap) (hSim : pm_Sim ρ τ D sz w H) (hS : va_S (fun q => sz ≤ q) s.heap H locs) : ∀ U : State, U.heap = H → s.WarmedH U.vm → pj_Pc ρ τ D sz aV vs w vs.toArray U := by
  intro U hU hW
  refine ⟨rfl, by rw [hU]; exact hSim, pm_Kn.warm hW (fun a h1 h2 => ?_) hK⟩
  rw [hU]
  exact hS.2.1 a h1 h2
theorem pj_callS {own : String} {y : MethodName} {b : ByteArray} {maxL fr lo ix n : Nat} {ret : Option FieldType} {vs rest : List Value} {r : Option Value} (hx : p.tables.exec = Jvm.exec) (hb : c.code = cc) (hml : c.maxLocals = ls.size) (hown : s.vm.findClass own = some m.cls) (hts : ∀ w ∈ pm_tb, w.before args s = true) (hK : pm_Kn ρ τ D sz aV s s.heap) (hM : pj_Met l ρ τ D sz aV w y b maxL ret fr lo vs r)
    (q1 : Cond.code y b maxL ret ∈ pm_tb) (q2 : Cond.initialized y.cls ∈ pm_tb) (q3 : Cond.methodLink own ix y ∈ pm_tb) (q4 : Cond.static y ∈ pm_tb) (hn : y.cls ≠ "java/lang/invoke/MethodHandle" ∧ y.cls ≠ "java/lang/invoke/VarHandle" ∧ (parseMethodDescriptor y.desc).map (fun d => d.parameters.length) = some n) (hvn : vs.length = n)
    (hR : fr + 1 ≤ R.frames ∧ 8 + (maxL + 11) + lo ≤ R.locals) (hc : cells ≤ R.cells ∧ slots ≤ R.slots) (hsum : (rest.map fun v => v.category).sum ≤ 8) {st : List Value} (hst : st = vs.reverse ++ rest) (hd : decode cc pc = .ok (.invokestatic ix, 3)) (hSim : pm_Sim ρ τ D sz w H) (hS : va_S (fun q => sz ≤ q) s.heap H locs)
    (kk : ∀ (H1 : Heap) (locs1 : List Loc), pm_Sim ρ τ D sz w H1 → va_S (fun q => sz ≤ q) s.heap H1 locs1 → W p l e R s m args below meth c H1 locs1 cells slots Q (F0 m (pc + 3) ls ((r.map (pm_rn ρ)).toList ++ rest))) : W p l e R s m args below meth c H locs cells slots Q (F0 m pc ls st) :=
  pm_goon (va_runS (As := vs) (rest := rest) (nL := ls.size) ⟨hx, hb, hml, hown, hts⟩ hM ⟨callB_of n hts (pj_good q1) rfl rfl rfl (hts _ q2) (hts _ q3) hn hR, hts _ q4⟩ ⟨pj_blind, pj_pre hK hSim hS⟩ rfl hvn rfl hst (lv_room hsum) hd hc) hS kk
theorem pj_callV {own : String} {y : MethodName} {b : ByteArray} {maxL fr lo ix n a : Nat} {ret : Option FieldType} {vs rest : List Value} {r : Option Value} (hx : p.tables.exec = Jvm.exec) (hb : c.code = cc) (hml : c.maxLocals = ls.size) (hown : s.vm.findClass own = some m.cls) (hts : ∀ w ∈ pm_tb, w.before args s = true) (hK : pm_Kn ρ τ D sz aV s s.heap) (hM : pj_Met l ρ τ D sz aV w y b maxL ret fr lo (.ref a :: vs) r)
    (q1 : Cond.code y b maxL ret ∈ pm_tb) (q2 : Cond.initialized y.cls ∈ pm_tb) (q3 : Cond.methodLink own ix y ∈ pm_tb) (q4 : Cond.instanceMethod y ∈ pm_tb) (q5 : Cond.selects y.cls y y ∈ pm_tb) (hn : y.cls ≠ "java/lang/invoke/MethodHandle" ∧ y.cls ≠ "java/lang/invoke/VarHandle" ∧ (parseMethodDescriptor y.desc).map (fun d => d.parameters.length) = some n) (hvn : vs.length = n)
    (hrec : ∃ cell : Cell, H[a]? = some cell ∧ cell.vm.isStatics = false ∧ s.vm.findClass y.cls = some cell.cls)
    (hR : fr + 1 ≤ R.frames ∧ 8 + (maxL + 11) + lo ≤ R.locals) (hc : cells ≤ R.cells ∧ slots ≤ R.slots) (hsum : (rest.map fun v => v.category).sum ≤ 8) {st : List Value} (hst : st = vs.reverse ++ .ref a :: rest) (hd : decode cc pc = .ok (.invokevirtual ix, 3)) (hSim : pm_Sim ρ τ D sz w H) (hS : va_S (fun q => sz ≤ q) s.heap H locs)
    (kk : ∀ (H1 : Heap) (locs1 : List Loc), pm_Sim ρ τ D sz w H1 → va_S (fun q => sz ≤ q) s.heap H1 locs1 → W p l e R s m args below meth c H1 locs1 cells slots Q (F0 m (pc + 3) ls ((r.map (pm_rn ρ)).toList ++ rest))) : W p l e R s m args below meth c H locs cells slots Q (F0 m pc ls st) :=
  pm_goon (va_runV (C := y.cls) (As := vs) (rest := rest) (b := a) (nL := ls.size) ⟨hx, hb, hml, hown, hts⟩ hM ⟨callB_of n hts (pj_good q1) rfl rfl rfl (hts _ q2) (hts _ q3) hn hR, hts _ q4, hts _ q5⟩ ⟨pj_blind, hrec, pj_pre hK hSim hS⟩ rfl hvn rfl hst (lv_room hsum) hd hc) hS kk
theorem pj_pre_ok {v : Value} {x y : Int32} (hv : v = .null ∨ ∃ t, v = .ref t) (h0 : ¬ x < 0) (h1 : x < y) : pj_Met l ρ τ D sz aV w yj_pre bj_pre 3 (some .int) 0 0 [.int x, .int y, v] (some (.int x)) := by
  have go : ∀ (p : Program) (e : Env) (s : State) (m : MethodId) (below : List Frame) (meth : Method) (c : Code) (ls : Array Slot) (ag : Array Value), p.tables.exec = Jvm.exec → c.code = bj_pre → meth.sig.returnType = some .int → meth.locks = false → pm_Sim ρ τ D sz w s.heap → ls[0]? = some (.val (.int x)) → ls[1]? = some (.val (.int y)) →
      W p l e { frames := 0, cells := 0, slots := 0, locals := 0 } s m ag below meth c s.heap [] 0 0 (MQ below (pm_Qc ρ τ D sz (some (.int x)) w) ag s 0 0 (fun q => sz ≤ q)) (F0 m 0 ls []) := by
    intro p e s m below meth c ls ag hx hb hr hlocks hSim l0 l1
    have hS : va_S (fun q => sz ≤ q) s.heap s.heap [] := va_S.rf
    refine lv_iload_n hx hb dp0 rfl l0 (lv_if_lt hx hb dp1 (tgt := 9) rfl (fun z => absurd z h0) (fun _ => ?_))
    refine lv_iload_n hx hb dp4 rfl l0 (lv_iload_n hx hb dp5 rfl l1 (lv_icmp_lt hx hb dp6 (tgt := 16) rfl (fun _ => ?_) (fun z => absurd h1 z)))
    refine lv_iload_n hx hb dp16 rfl l0 ?_
    exact W.iret hx hb hr (fun t ht _ => ⟨⟨rfl, by rw [ht]; exact hSim⟩, hS.F ht⟩) hS.2.2 dp17 hlocks
  rcases hv with rfl | ⟨t, rfl⟩
  · exact pj_open (by decide +kernel) (Nat.le_refl 3) (fun p e s m below meth c ls hx hb hml hown hts hr hlocks hSim hK hl => go p e s m below meth c ls _ hx hb hr hlocks hSim (lv_at hl 0 rfl) (lv_at hl 1 rfl))
  · exact pj_open (by decide +kernel) (Nat.le_refl 3) (fun p e s m below meth c ls hx hb hml hown hts hr hlocks hSim hK hl => go p e s m below meth c ls _ hx hb hr hlocks hSim (lv_at hl 0 rfl) (lv_at hl 1 rfl))
theorem pj_chk_ok {x y : Int32} (h0 : ¬ x < 0) (h1 : x < y) : pj_Met l ρ τ D sz aV w yj_chk bj_chk 2 none 1 22 [.int x, .int y] none := by
  refine pj_open (by decide +kernel) (Nat.le_refl 2) ?_
  intro p e s m below meth c ls hx hb hml hown hts hr hlocks hSim hK hl
  have hS : va_S (fun q => sz ≤ q) s.heap s.heap [] := va_S.rf
  refine lv_iload_n hx hb dx0 rfl (lv_at hl 0 rfl) (lv_iload_n hx hb dx1 rfl (lv_at hl 1 rfl) ?_)
  have fin : ∀ v : Value, (v = .null ∨ ∃ t, v = .ref t) → va_Z "jdk/internal/util/Preconditions" "SIOOBE_FORMATTER" "Ljava/util/function/BiFunction;" v (fun q => sz ≤ q) s s.heap → W p l e { frames := 1, cells := 0, slots := 0, locals := 22 } s m [Value.int x, Value.int y].toArray below meth c s.heap [] 0 0 (MQ below (pm_Qc ρ τ D sz none w) [Value.int x, Value.int y].toArray s 0 0 (fun q => sz ≤ q)) (F0 m 2 ls [.int y, .int x]) := by
    intro v hv hZ
    refine va_gets hx hb hZ hS hown (hts (.fieldLink "java/lang/String" 1053 "jdk/internal/util/Preconditions" "SIOOBE_FORMATTER" "Ljava/util/function/BiFunction;") (pm_in 365 (by decide +kernel) rfl)) (fun _ h => h) dx2 ?_
    refine pj_callS (own := "java/lang/String") (n := 3) (vs := [.int x, .int y, v]) (rest := []) (r := some (.int x)) hx hb (hml.trans hl.1.symm) hown hts hK (pj_pre_ok hv h0 h1) (pm_in 369 (by decide +kernel) rfl) (pm_in 72 (by decide +kernel) rfl) (pm_in 367 (by decide +kernel) rfl) (pm_in 368 (by decide +kernel) rfl) (by decide +kernel) rfl ⟨Nat.le_refl 1, Nat.le_refl 22⟩ ⟨Nat.le_refl 0, Nat.le_refl 0⟩ (Nat.zero_le _) rfl dx5 hSim hS (fun H1 locs1 hSim hS => ?_)
    refine lv_pop hx hb dx8 rfl ?_
    exact W.vret hx hb hr (fun t ht _ => ⟨⟨rfl, by rw [ht]; exact hSim⟩, hS.F ht⟩) hS.2.2 dx9 hlocks
  rcases hK.2.2.2.2.2.1 with h | ⟨t, h⟩
  · exact fin .null (Or.inl rfl) h
  · exact fin (.ref t) (Or.inr ⟨t, rfl⟩) h
/-- a byte of a constant, at its place -/
theorem pj_l1_ok {j i : Nat} (hj : j < pt_sx.length) (hi : i < pt_sn.getD j 0) (hb0 : ((pt_sb.getD j []).getD i 0 &&& 255) = (pt_sb.getD j []).getD i 0) (hb1 : (((pt_sb.getD j []).getD i 0).toUInt32 % 65536).toInt32 = (pt_sb.getD j []).getD i 0) (hb2 : narrow .char (.int ((pt_sb.getD j []).getD i 0)) = .int ((pt_sb.getD j []).getD i 0)) (hL : pt_sn.getD j 0 < 2 ^ 31) : pj_Met l ρ τ D sz aV w yj_l1 bj_l1 2 (some .char) 2 43 [.ref (aV j), .int (nI i)] (some (.int ((pt_sb.getD j []).getD i 0))) := by
  refine pj_open (by decide +kernel) (Nat.le_refl 2) ?_
  intro p e s m below meth c ls hx hb hml hown hts hr hlocks hSim hK hl
  have hS : va_S (fun q => sz ≤ q) s.heap s.heap [] := va_S.rf
  have hT := (hK.2.2.2.1.1 j hj).2.2.2
  refine lv_iload_n hx hb dk0 rfl (lv_at hl 1 rfl) (lv_aload_n hx hb dk1 rfl (lv_at hl 0 rfl) ?_)
  refine va_tlen hx hb hT hS (v := nI (pt_sn.getD j 0)) rfl dk2 ?_
  refine pj_callS (own := "java/lang/StringLatin1") (n := 2) (vs := [.int (nI i), .int (nI (pt_sn.getD j 0))]) (rest := []) (r := none) hx hb (hml.trans hl.1.symm) hown hts hK (pj_chk_ok (nI_pos (by omega)) (nI_lt hi hL)) (pm_in 364 (by decide +kernel) rfl) (pm_in 70 (by decide +kernel) rfl) (pm_in 362 (by decide +kernel) rfl) (pm_in 363 (by decide +kernel) rfl) (by decide +kernel) rfl ⟨Nat.le_refl 2, Nat.le_refl 43⟩ ⟨Nat.le_refl 0, Nat.le_refl 0⟩ (Nat.zero_le _) rfl dk3 hSim hS (fun H1 locs1 hSim hS => ?_)
  refine lv_aload_n hx hb dk6 rfl (lv_at hl 0 rfl) (lv_iload_n hx hb dk7 rfl (lv_at hl 1 rfl) ?_)
  refine va_tb hx hb hT hS (i := nI i) (vp_in_nI hi hL) (v := .int ((pt_sb.getD j []).getD i 0)) (by rw [nI_clamp (by omega)]) dk8 ?_
  refine lv_sipush hx hb dk9 (v := 255) rfl (lv_iand hx hb dk12 ?_)
  rw [hb0]
  refine lv_i2c hx hb dk13 hb1 ?_
  exact W.zret hx hb hr hb2 (fun t ht _ => ⟨⟨rfl, by rw [ht]; exact hSim⟩, hS.F ht⟩) hS.2.2 dk14 hlocks
theorem pj_cod_ok {j : Nat} (hj : j < pt_sx.length) : pj_Met l ρ τ D sz aV w yj_cod bj_cod 1 (some .byte) 0 0 [.ref (ρ (1000 + j))] (some (.int 0)) := by
  refine pj_open (by decide +kernel) (Nat.le_refl 1) ?_
  intro p e s m below meth c ls hx hb hml hown hts hr hlocks hSim hK hl
  have hS : va_S (fun q => sz ≤ q) s.heap s.heap [] := va_S.rf
  refine va_gets hx hb hK.2.2.2.2.1 hS hown (hts (.fieldLink "java/lang/String" 38 "java/lang/String" "COMPACT_STRINGS" "Z") (pm_in 349 (by decide +kernel) rfl)) (fun _ h => h) dc0 ?_
  refine lv_if_eq hx hb dc3 (tgt := 13) rfl (fun z => absurd z (by decide)) (fun _ => ?_)
  refine lv_aload_n hx hb dc6 rfl (lv_at hl 0 rfl) ?_
  refine vk_getf hx hb (hK.2.2.2.1.1 j hj).2.1 hS hown (hts (.fieldLink "java/lang/String" 15 "java/lang/String" "coder" "B") (pm_in 1220 (by decide +kernel) rfl)) (fun _ h => h) dc7 ?_
  refine lv_goto hx hb dc10 (tgt := 14) rfl ?_
  exact W.zret hx hb hr rfl (fun t ht _ => ⟨⟨rfl, by rw [ht]; exact hSim⟩, hS.F ht⟩) hS.2.2 dc14 hlocks
theorem pj_lat_ok {j : Nat} (hj : j < pt_sx.length) : pj_Met l ρ τ D sz aV w yj_lat bj_lat 1 (some .boolean) 0 0 [.ref (ρ (1000 + j))] (some (.int 1)) := by
  refine pj_open (by decide +kernel) (Nat.le_refl 1) ?_
  intro p e s m below meth c ls hx hb hml hown hts hr hlocks hSim hK hl
  have hS : va_S (fun q => sz ≤ q) s.heap s.heap [] := va_S.rf
  refine va_gets hx hb hK.2.2.2.2.1 hS hown (hts (.fieldLink "java/lang/String" 38 "java/lang/String" "COMPACT_STRINGS" "Z") (pm_in 349 (by decide +kernel) rfl)) (fun _ h => h) di0 ?_
  refine lv_if_eq hx hb di3 (tgt := 17) rfl (fun z => absurd z (by decide)) (fun _ => ?_)
  refine lv_aload_n hx hb di6 rfl (lv_at hl 0 rfl) ?_
  refine vk_getf hx hb (hK.2.2.2.1.1 j hj).2.1 hS hown (hts (.fieldLink "java/lang/String" 15 "java/lang/String" "coder" "B") (pm_in 1220 (by decide +kernel) rfl)) (fun _ h => h) di7 ?_
  refine lv_if_ne hx hb di10 (tgt := 17) rfl (fun z => absurd rfl z) (fun _ => ?_)
  refine lv_iconst hx hb di13 (v := 1) rfl (lv_goto hx hb di14 (tgt := 18) rfl ?_)
  exact W.zret hx hb hr rfl (fun t ht _ => ⟨⟨rfl, by rw [ht]; exact hSim⟩, hS.F ht⟩) hS.2.2 di18 hlocks
theorem pj_len_ok {j : Nat} (hj : j < pt_sx.length) (hL : nI (pt_sn.getD j 0) >>> ((0 : Int32) &&& 31) = nI (pt_sn.getD j 0)) : pj_Met l ρ τ D sz aV w yj_len bj_len 1 (some .int) 1 20 [.ref (ρ (1000 + j))] (some (.int (nI (pt_sn.getD j 0)))) := by
  refine pj_open (by decide +kernel) (Nat.le_refl 1) ?_
  intro p e s m below meth c ls hx hb hml hown hts hr hlocks hSim hK hl
  have hS : va_S (fun q => sz ≤ q) s.heap s.heap [] := va_S.rf
  refine lv_aload_n hx hb dl0 rfl (lv_at hl 0 rfl) ?_
  refine vk_getf hx hb (hK.2.2.2.1.1 j hj).2.2.1 hS hown (hts (.fieldLink "java/lang/String" 9 "java/lang/String" "value" "[B") (pm_in 1219 (by decide +kernel) rfl)) (fun _ h => h) dl1 ?_
  refine va_tlen hx hb (hK.2.2.2.1.1 j hj).2.2.2 hS (v := nI (pt_sn.getD j 0)) rfl dl4 ?_
  refine lv_aload_n hx hb dl5 rfl (lv_at hl 0 rfl) ?_
  refine pj_callV (own := "java/lang/String") (n := 0) (vs := []) (rest := [.int (nI (pt_sn.getD j 0))]) (r := some (.int 0)) hx hb (hml.trans hl.1.symm) hown hts hK (pj_cod_ok hj) (pm_in 348 (by decide +kernel) rfl) (pm_in 70 (by decide +kernel) rfl) (pm_in 345 (by decide +kernel) rfl) (pm_in 346 (by decide +kernel) rfl) (pm_in 347 (by decide +kernel) rfl) (by decide +kernel) rfl (vk_recv (adK := fun j => ρ (1000 + j)) (i := j) hK.2.2.2.1 hj hS) ⟨Nat.le_refl 1, Nat.le_refl 20⟩ ⟨Nat.le_refl 0, Nat.le_refl 0⟩ (Nat.le_of_ble_eq_true rfl) rfl dl6 hSim hS (fun H1 locs1 hSim hS => ?_)
  refine lv_ishr hx hb dl9 ?_
  rw [hL]
  exact W.iret hx hb hr (fun t ht _ => ⟨⟨rfl, by rw [ht]; exact hSim⟩, hS.F ht⟩) hS.2.2 dl10 hlocks
theorem pj_cha_ok {j i : Nat} (hj : j < pt_sx.length) (hi : i < pt_sn.getD j 0) (hb0 : ((pt_sb.getD j []).getD i 0 &&& 255) = (pt_sb.getD j []).getD i 0) (hb1 : (((pt_sb.getD j []).getD i 0).toUInt32 % 65536).toInt32 = (pt_sb.getD j []).getD i 0) (hb2 : narrow .char (.int ((pt_sb.getD j []).getD i 0)) = .int ((pt_sb.getD j []).getD i 0)) (hL : pt_sn.getD j 0 < 2 ^ 31) : pj_Met l ρ τ D sz aV w yj_cha bj_cha 2 (some .char) 3 64 [.ref (ρ (1000 + j)), .int (nI i)] (some (.int ((pt_sb.getD j []).getD i 0))) := by
  refine pj_open (by decide +kernel) (Nat.le_refl 2) ?_
  intro p e s m below meth c ls hx hb hml hown hts hr hlocks hSim hK hl
  have hS : va_S (fun q => sz ≤ q) s.heap s.heap [] := va_S.rf
  refine lv_aload_n hx hb da0 rfl (lv_at hl 0 rfl) ?_
  refine pj_callV (own := "java/lang/String") (n := 0) (vs := []) (rest := []) (r := some (.int 1)) hx hb (hml.trans hl.1.symm) hown hts hK (pj_lat_ok hj) (pm_in 358 (by decide +kernel) rfl) (pm_in 70 (by decide +kernel) rfl) (pm_in 355 (by decide +kernel) rfl) (pm_in 356 (by decide +kernel) rfl) (pm_in 357 (by decide +kernel) rfl) (by decide +kernel) rfl (vk_recv (adK := fun j => ρ (1000 + j)) (i := j) hK.2.2.2.1 hj hS) ⟨Nat.le_of_ble_eq_true rfl, Nat.le_of_ble_eq_true rfl⟩ ⟨Nat.le_refl 0, Nat.le_refl 0⟩ (Nat.zero_le _) rfl da1 hSim hS (fun H1 locs1 hSim hS => ?_)
  refine lv_if_eq hx hb da4 (tgt := 16) rfl (fun z => absurd z (by decide)) (fun _ => ?_)
  refine lv_aload_n hx hb da7 rfl (lv_at hl 0 rfl) ?_
  refine vk_getf hx hb (hK.2.2.2.1.1 j hj).2.2.1 hS hown (hts (.fieldLink "java/lang/String" 9 "java/lang/String" "value" "[B") (pm_in 1219 (by decide +kernel) rfl)) (fun _ h => h) da8 ?_
  refine lv_iload_n hx hb da11 rfl (lv_at hl 1 rfl) ?_
  refine pj_callS (own := "java/lang/String") (n := 2) (vs := [.ref (aV j), .int (nI i)]) (rest := []) (r := some (.int ((pt_sb.getD j []).getD i 0))) hx hb (hml.trans hl.1.symm) hown hts hK (pj_l1_ok hj hi hb0 hb1 hb2 hL) (pm_in 361 (by decide +kernel) rfl) (pm_in 71 (by decide +kernel) rfl) (pm_in 359 (by decide +kernel) rfl) (pm_in 360 (by decide +kernel) rfl) (by decide +kernel) rfl ⟨Nat.le_refl 3, Nat.le_refl 64⟩ ⟨Nat.le_refl 0, Nat.le_refl 0⟩ (Nat.zero_le _) rfl da12 hSim hS (fun H1 locs1 hSim hS => ?_)
  exact W.zret hx hb hr hb2 (fun t ht _ => ⟨⟨rfl, by rw [ht]; exact hSim⟩, hS.F ht⟩) hS.2.2 da15 hlocks
end PJ
theorem sc_facts : ∀ j, j < pt_sx.length → pt_sn.getD j 0 < 2 ^ 31 ∧ nI (pt_sn.getD j 0) >>> ((0 : Int32) &&& 31) = nI (pt_sn.getD j 0) ∧ ∀ i, i < pt_sn.getD j 0 → ((pt_sb.getD j []).getD i 0 &&& 255) = (pt_sb.getD j []).getD i 0 ∧ (((pt_sb.getD j []).getD i 0).toUInt32 % 65536).toInt32 = (pt_sb.getD j []).getD i 0 := by decide +kernel
theorem pj_nar {v : Int32} (h : (v.toUInt32 % 65536).toInt32 = v) : narrow .char (.int v) = .int v := by
  show Value.int _ = Value.int v
  congr 1
theorem pm_ScOk_all (l : Launch) : pm_ScOk l := by
  intro p e R s m args below meth c cells slots Q ρ τ D sz aV cc i len pc o pl st w kd M' av rest v hx hb hml hown hts hK hd hc hkd hv hf hlo hcl hsl hsum kk
  intro H locs ls hSim hS hl
  have hsum' : ((rest.map (pm_rn ρ)).map fun v => v.category).sum ≤ 8 := by rw [pm_sum]; exact hsum
  have hml' : c.maxLocals = ls.size := hml.trans hl.1.symm
  unfold pm_cl at hc
  split at hc
  · split at hc
    · rename_i ix hn
      subst hn
      split at hc
      · cases hc
        rcases hkd with h | h <;> cases h
      · rename_i M2 hpm
        cases hc
        have hq := pt_M_ok hpm
        have hq : (o, ix, 3, M') = (2, 154, 3, 900) := hq
        cases hq
        unfold pm_sc at hv
        split at hv
        · rename_i k _ hav
          split at hv
          · rename_i hk
            cases hv
            obtain ⟨j, rfl⟩ : ∃ j, k = 1000 + j := ⟨k - 1000, (Nat.add_sub_cancel' hk.1).symm⟩
            rw [Nat.add_sub_cancel_left] at hk kk
            have hst : st.map (pm_rn ρ) = [] ++ .ref (ρ (1000 + j)) :: (st.drop 1).map (pm_rn ρ) := by
              cases st with
              | nil => cases hav
              | cons a t =>
                have : a = .ref (1000 + j) := by simpa using hav
                subst this
                rfl
            exact pj_callV (own := RX2) (n := 0) (vs := []) (r := some (.int (nI (pt_sn.getD j 0)))) hx hb hml' hown hts hK (pj_len_ok hk.2 (sc_facts j hk.2).2.1) (pm_in 344 (by decide +kernel) rfl) (pm_in 70 (by decide +kernel) rfl) (pm_in 341 (by decide +kernel) rfl) (pm_in 342 (by decide +kernel) rfl) (pm_in 343 (by decide +kernel) rfl) (by decide +kernel) rfl (vk_recv (adK := fun j => ρ (1000 + j)) (i := j) hK.2.2.2.1 hk.2 hS) ⟨by show 2 ≤ R.frames; omega, by show 8 + (1 + 11) + 20 ≤ R.locals; omega⟩ ⟨hcl, hsl⟩ hsum' hst hd hSim hS (fun H1 locs1 h1 h2 => kk H1 locs1 ls h1 h2 hl)
          · cases hv
        · rename_i h4 _
          cases h4
        · cases hv
      · rename_i M2 hpm
        cases hc
        have hq := pt_M_ok hpm
        have hq : (o, ix, 4, M') = (2, 162, 4, 901) := hq
        cases hq
        unfold pm_sc at hv
        split at hv
        · rename_i h3 _
          cases h3
        · rename_i k x _ hav
          split at hv
          · rename_i hk
            split at hv
            · cases hv
            · rename_i hin
              cases hv
              obtain ⟨j, rfl⟩ : ∃ j, k = 1000 + j := ⟨k - 1000, (Nat.add_sub_cancel' hk.1).symm⟩
              rw [Nat.add_sub_cancel_left] at hk kk hin
              have h0 : ¬ x < 0 := fun z => hin (Or.inl z)
              obtain ⟨i, hi, rfl⟩ := nI_of h0
              rw [nI_clamp hi] at kk hin
              have hi2 : i < pt_sn.getD j 0 := by omega
              have hst : st.map (pm_rn ρ) = [.int (nI i)].reverse ++ .ref (ρ (1000 + j)) :: (st.drop 2).map (pm_rn ρ) := by
                cases st with
                | nil => cases hav
                | cons a t =>
                  cases t with
                  | nil => cases hav
                  | cons b t =>
                    have : b = .ref (1000 + j) ∧ a = .int (nI i) := by simpa using hav
                    obtain ⟨rfl, rfl⟩ := this
                    rfl
              obtain ⟨f1, f2, f3⟩ := sc_facts j hk.2
              obtain ⟨f4, f5⟩ := f3 i hi2
              exact pj_callV (own := RX2) (n := 1) (vs := [.int (nI i)]) (r := some (.int ((pt_sb.getD j []).getD i 0))) hx hb hml' hown hts hK (pj_cha_ok hk.2 hi2 f4 f5 (pj_nar f5) f1) (pm_in 354 (by decide +kernel) rfl) (pm_in 70 (by decide +kernel) rfl) (pm_in 351 (by decide +kernel) rfl) (pm_in 352 (by decide +kernel) rfl) (pm_in 353 (by decide +kernel) rfl) (by decide +kernel) rfl (vk_recv (adK := fun j => ρ (1000 + j)) (i := j) hK.2.2.2.1 hk.2 hS) ⟨by show 4 ≤ R.frames; omega, by show 8 + (2 + 11) + 64 ≤ R.locals; omega⟩ ⟨hcl, hsl⟩ hsum' hst hd hSim hS (fun H1 locs1 h1 h2 => kk H1 locs1 ls h1 h2 hl)
          · cases hv
        · cases hv
      · cases hc
    · cases hc
  · split at hc
    · split at hc
      · cases hc
        rcases hkd with h | h <;> cases h
      · cases hc
        rcases hkd with h | h <;> cases h
      · cases hc
    · cases hc
  · cases hc
