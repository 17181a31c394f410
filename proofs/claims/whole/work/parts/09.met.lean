/-! WHAT A RUN ANSWERS, THE MACHINE DOES -/
def pm_ws (M : Nat) : List Cond := Cond.code (pt_y M) (pt_b M) (pt_l M) (pt_r M) :: pm_tb
def pm_rm (M : Nat) : Room := { frames := pt_f M, cells := 0, slots := 0, locals := pt_w M }
def pm_Pc (ρ : Nat → Nat) (τ : Nat → ClassId) (D : va_G) (sz : Nat) (aV : Nat → Nat) (av : List Value) (w : pm_H) : Array Value → State → Prop := va_Pc (av.map (pm_rn ρ)) (fun U => pm_Sim ρ τ D sz w U.heap ∧ pm_Kn ρ τ D sz aV U U.heap)
def pm_Qc (ρ : Nat → Nat) (τ : Nat → ClassId) (D : va_G) (sz : Nat) (r : Option Value) (w' : pm_H) : Array Value → State → Outcome → State → Prop := fun _ st oc t => (oc = .returned (r.map (pm_rn ρ)) ∧ pm_Sim ρ τ D sz w' t.heap) ∧ va_F (fun q => sz ≤ q) st t
def pm_Met (l : Launch) (ρ : Nat → Nat) (τ : Nat → ClassId) (D : va_G) (sz : Nat) (aV : Nat → Nat) (M : Nat) (av : List Value) (w : pm_H) (r : Option Value) (w' : pm_H) : Prop :=
  Met l (pt_y M) (pm_ws M) (pm_rm M) (pm_Pc ρ τ D sz aV av w) (pm_Qc ρ τ D sz r w') 0 0 (fun q => sz ≤ q)
theorem pm_good {M : Nat} (h : pt_Yp M) : GoodIn pm_tb (pm_ws M) := by
  intro w hw
  have h2 : w ∈ pm_tb := by
    rcases List.mem_cons.mp hw with e | e
    · rw [e]; exact h.1
    · exact e
  exact ⟨h2, good_of_word (List.mem_filter.mp h2).2⟩
theorem pm_blind {ρ : Nat → Nat} {τ : Nat → ClassId} {D : va_G} {sz : Nat} {aV : Nat → Nat} {av : List Value} {w : pm_H} : FrameBlind (pm_Pc ρ τ D sz aV av w) := by
  intro a U g mk h
  obtain ⟨h1, h2, h3⟩ := h
  exact ⟨h1, h2, pm_Kn.same (s := U) (U := U.calling g mk a) rfl h3⟩
section PMC
variable {p : Program} {l : Launch} {e : Env} {R : Room} {s : State} {m : MethodId} {args : Array Value} {below : List Frame} {meth : Method} {c : Code} {cells slots : Nat} {Q : State → Prop} {H : Heap} {locs : List Loc}
variable {ρ : Nat → Nat} {τ : Nat → ClassId} {D : va_G} {sz : Nat} {aV : Nat → Nat} {cc : ByteArray} {i : Instr} {len pc o : Nat} {pl : pm_L} {st : List Value} {w : pm_H} {cf : pm_C}
theorem pm_goon {r : Option Value} {w' : pm_H} {a : Array Value} {ls : Array Slot} {st0 rest : List Value} (hr : va_Run p l e R s m args below meth c H locs cells slots 0 0 (F0 m pc ls st0) rest (pm_Qc ρ τ D sz r w' a) (fun q => sz ≤ q)) (hS : va_S (fun q => sz ≤ q) s.heap H locs)
    (kk : ∀ (H1 : Heap) (locs1 : List Loc), pm_Sim ρ τ D sz w' H1 → va_S (fun q => sz ≤ q) s.heap H1 locs1 → W p l e R s m args below meth c H1 locs1 cells slots Q (F0 m (pc + 3) ls ((r.map (pm_rn ρ)).toList ++ rest))) : W p l e R s m args below meth c H locs cells slots Q (F0 m pc ls st0) := by
  intro T hT X
  obtain ⟨v, st₀, t, T', L, h0, X', hL, e1, e2, ⟨⟨hv, hsim⟩, hz, hk⟩, stp⟩ := hr T hT X
  cases hv
  rw [h0] at hz hk
  obtain ⟨t2, a1, b1⟩ := kk T'.heap (locs ++ L) (by rw [e1]; exact hsim) ⟨Nat.le_trans hS.1 (by rw [e1]; exact hz), fun q h1 h2 => by rw [e1, hk q (Nat.lt_of_lt_of_le h1 hS.1) h2]; exact hS.2.1 q h1 h2, fun q hq => by
      rcases List.mem_append.mp hq with h | h
      · exact hS.2.2 q h
      · exact hL q h⟩ T' rfl X'
  exact ⟨t2, stp t2 a1, b1⟩
theorem pm_sum (ρ : Nat → Nat) (rest : List Value) : ((rest.map (pm_rn ρ)).map fun v => v.category).sum = (rest.map fun v => v.category).sum := by
  rw [List.map_map]
  congr 1
  exact List.map_congr_left (fun v _ => pm_cat ρ v)
theorem pm_pre (hK : pm_Kn ρ τ D sz aV s s.heap) (hSim : pm_Sim ρ τ D sz w H) (hS : va_S (fun q => sz ≤ q) s.heap H locs) {av : List Value} : ∀ U : State, U.heap = H → s.WarmedH U.vm → pm_Pc ρ τ D sz aV av w (av.map (pm_rn ρ)).toArray U := by
  intro U hU hW
  refine ⟨rfl, by rw [hU]; exact hSim, pm_Kn.warm hW (fun a h1 h2 => ?_) hK⟩
  rw [hU]
  exact hS.2.1 a h1 h2
theorem pm_may_all {M kd M' : Nat} {av rest : List Value} {w : pm_H} {nl : Nat} (hm : pm_may M kd M' av rest w nl = true) : nl = pt_l M ∧ pt_f M' + 1 ≤ pt_f M ∧ 8 + (pt_l M' + 11) + pt_w M' ≤ pt_w M ∧ (rest.map fun v => v.category).sum ≤ 8 ∧ (lg_sl av).length ≤ pt_l M' := by
  unfold pm_may at hm
  rw [Bool.and_eq_true, decide_eq_true_eq] at hm
  exact hm.1
theorem pm_may0 {M M' : Nat} {av rest : List Value} {w : pm_H} {nl : Nat} (hm : pm_may M 0 M' av rest w nl = true) : ∃ (b : Nat) (as fs : List Value), av = .ref b :: as ∧ as.length = pt_n M' ∧ w b = some (.inr (pt_o M', fs)) := by
  unfold pm_may at hm
  rw [Bool.and_eq_true] at hm
  have hm := hm.2
  cases av with
  | nil => cases hm
  | cons v as =>
    cases v with
    | ref b =>
      have hm : (decide (as.length = pt_n M') && (match w b with
        | some (.inr (ci, _)) => decide (ci = pt_o M')
        | _ => false)) = true := hm
      rw [Bool.and_eq_true, decide_eq_true_eq] at hm
      obtain ⟨h1, h2⟩ := hm
      cases hw : w b with
      | none => rw [hw] at h2; cases h2
      | some e =>
        rw [hw] at h2
        cases e with
        | inl x => cases h2
        | inr x =>
          obtain ⟨ci, fs⟩ := x
          have hci : ci = pt_o M' := by simpa using h2
          subst hci
          exact ⟨b, as, fs, rfl, h1, hw⟩
    | _ => cases hm
theorem pm_may1 {M M' kd : Nat} {av rest : List Value} {w : pm_H} {nl : Nat} (hk : kd = 1 ∨ kd = 2) (hm : pm_may M kd M' av rest w nl = true) : av.length = pt_n M' := by
  unfold pm_may at hm
  rw [Bool.and_eq_true] at hm
  have hm := hm.2
  rcases hk with rfl | rfl
  · simpa using hm
  · simpa using hm
/-- a call of a method whose contract is known -/
theorem pm_call_ok (hx : p.tables.exec = Jvm.exec) (hb : c.code = cc) (hml : c.maxLocals = pl.length) (hown : s.vm.findClass (pt_cn o) = some m.cls) (hts : ∀ w ∈ pm_tb, w.before args s = true) (hK : pm_Kn ρ τ D sz aV s s.heap) (hd : decode cc pc = .ok (i, len)) {kd M M' : Nat} {av rest : List Value} (hc : pm_cl o i len st = some (kd, M', av, rest)) (hk34 : ¬ (kd = 3 ∨ kd = 4)) (hm : pm_may M kd M' av rest w pl.length = true)
    (hR : R.frames = pt_f M ∧ R.locals = pt_w M ∧ cells ≤ R.cells ∧ slots ≤ R.slots) {r : Option Value} {w' : pm_H} (hM : pm_Met l ρ τ D sz aV M' av w r w')
    (kk : pm_K p l e R s m args below meth c cells slots Q ρ τ D sz (pc + 3, pl, r.toList ++ rest, w')) : pm_K p l e R s m args below meth c cells slots Q ρ τ D sz (pc, pl, st, w) := by
  intro H locs ls hSim hS hl
  obtain ⟨-, hfr, hlo, hsum, hent⟩ := pm_may_all hm
  have hsum' : ((rest.map (pm_rn ρ)).map fun v => v.category).sum ≤ 8 := by rw [pm_sum]; exact hsum
  have hroom : (pm_rm M').frames + 1 ≤ R.frames ∧ 8 + (pt_l M' + 11) + (pm_rm M').locals ≤ R.locals := by rw [hR.1, hR.2.1]; exact ⟨hfr, hlo⟩
  have hkk : ∀ (H1 : Heap) (locs1 : List Loc), pm_Sim ρ τ D sz w' H1 → va_S (fun q => sz ≤ q) s.heap H1 locs1 → W p l e R s m args below meth c H1 locs1 cells slots Q (F0 m (pc + 3) ls ((r.map (pm_rn ρ)).toList ++ rest.map (pm_rn ρ))) := by
    intro H1 locs1 h1 h2
    have := kk H1 locs1 ls h1 h2 hl
    cases r <;> exact this
  have hsz : (F0 m pc ls (st.map (pm_rn ρ))).locals.size = c.maxLocals := by rw [hml]; exact hl.1
  unfold pm_cl at hc
  split at hc
  · split at hc
    · rename_i ix hn
      subst hn
      split at hc
      · rename_i M2 hpm
        cases hc
        obtain ⟨q1, q2, q3, hY, C, T, N, hcl, hC⟩ := pt_M_ok hpm
        dsimp only at q1 q2 q3 hY hcl hC
        obtain ⟨b, as, fs, hav, hlen, hw⟩ := pm_may0 hm
        have hst : st.map (pm_rn ρ) = (as.map (pm_rn ρ)).reverse ++ .ref (ρ b) :: (st.drop (pt_n M' + 1)).map (pm_rn ρ) := by
          have h1 : st = (.ref b :: as).reverse ++ st.drop (pt_n M' + 1) := by
            rw [← hav, List.reverse_reverse, List.take_append_drop]
          conv => lhs; rw [h1]
          simp [List.map_append, List.map_reverse, pm_rn]
        have hP : va_P D vwCl [(ρ b, pm_cv ρ τ (.inr (pt_o M', fs)))] H := fun j q hj => by
          cases j with
          | zero => cases hj; exact (hSim.1 b _ hw).1
          | succ j => cases hj
        rw [hav] at hM
        have hcw : CallW R s args (pt_cn o) (pt_y M').cls ix (pt_y M') (pt_b M') (pt_l M') (pt_r M') (pm_ws M') (pm_rm M') 0 0 (pt_n M') :=
          ⟨callB_of (pt_n M') hts (pm_good hY) rfl rfl rfl (hts _ hY.2.1) (hts _ q1) hY.2.2.1 hroom, hts _ q2, hts _ q3⟩
        refine pm_goon (va_runV (C := (pt_y M').cls) (As := as.map (pm_rn ρ)) (rest := (st.drop (pt_n M' + 1)).map (pm_rn ρ)) (b := ρ b) ⟨hx, hb, rfl, hown, hts⟩ hM hcw ⟨pm_blind, ?_, ?_⟩ rfl (by rw [List.length_map]; exact hlen) hsz hst (lv_room hsum') hd ⟨hR.2.2.1, hR.2.2.2⟩) hS hkk
        · rw [← hC]
          exact va_recv hK.1 hP hcl (q0 := 0) rfl
        · exact pm_pre (av := .ref b :: as) hK hSim hS
      · cases hc
        exact absurd (Or.inl rfl) hk34
      · cases hc
        exact absurd (Or.inr rfl) hk34
      · cases hc
    · cases hc
  · split at hc
    · rename_i ix hn
      subst hn
      split at hc
      · rename_i M2 hpm
        cases hc
        obtain ⟨q1, q2, hY⟩ := pt_M_ok hpm
        dsimp only at q1 q2 hY
        have hlen := pm_may1 (Or.inl rfl) hm
        have hst : st.map (pm_rn ρ) = ((st.take (pt_n M')).reverse.map (pm_rn ρ)).reverse ++ (st.drop (pt_n M')).map (pm_rn ρ) := by
          rw [← List.map_reverse, List.reverse_reverse, ← List.map_append, List.take_append_drop]
        have hcw : CallB R s args (pt_cn o) ix (pt_y M') (pt_b M') (pt_l M') (pt_r M') (pm_ws M') (pm_rm M') 0 0 (pt_n M') ∧ (Cond.static (pt_y M')).before args s = true :=
          ⟨callB_of (pt_n M') hts (pm_good hY) rfl rfl rfl (hts _ hY.2.1) (hts _ q1) hY.2.2.1 hroom, hts _ q2⟩
        exact pm_goon (va_runS (As := (st.take (pt_n M')).reverse.map (pm_rn ρ)) (rest := (st.drop (pt_n M')).map (pm_rn ρ)) ⟨hx, hb, rfl, hown, hts⟩ hM hcw ⟨pm_blind, pm_pre hK hSim hS⟩ rfl (by rw [List.length_map]; exact hlen) hsz hst (lv_room hsum') hd ⟨hR.2.2.1, hR.2.2.2⟩) hS hkk
      · rename_i M2 hpm
        cases hc
        obtain ⟨q2, hY, hN⟩ := pt_M_ok hpm
        dsimp only at q2 hY
        have hlen := pm_may1 (Or.inr rfl) hm
        have hst : st.map (pm_rn ρ) = ((st.take (pt_n M')).reverse.map (pm_rn ρ)).reverse ++ (st.drop (pt_n M')).map (pm_rn ρ) := by
          rw [← List.map_reverse, List.reverse_reverse, ← List.map_append, List.take_append_drop]
        have hcw : va_CN R s args (pt_cn o) ix (pt_y M') RX5 (pt_b M') (pt_l M') (pt_r M') (pm_ws M') (pm_rm M') 0 0 (pt_n M') ∧ (Cond.static (pt_y M')).before args s = true ∧ True :=
          ⟨va_cnB (pt_n M') hts (pm_good hY) rfl rfl rfl (hK.2.1 _ hN) (hts _ hY.2.1) hY.2.2.1 hroom, hts _ q2, trivial⟩
        exact pm_goon (va_runSN (As := (st.take (pt_n M')).reverse.map (pm_rn ρ)) (rest := (st.drop (pt_n M')).map (pm_rn ρ)) ⟨hx, hb, rfl, hown, hts⟩ hM hcw ⟨pm_blind, pm_pre hK hSim hS⟩ rfl (by rw [List.length_map]; exact hlen) hsz hst (lv_room hsum') hd ⟨hR.2.2.1, hR.2.2.2⟩) hS hkk
      · cases hc
    · cases hc
  · cases hc
/-- a return -/
theorem pm_fin_ok (hx : p.tables.exec = Jvm.exec) (hb : c.code = cc) {rt : Option FieldType} (hr : meth.sig.returnType = rt) (hlocks : meth.locks = false) (hd : decode cc pc = .ok (i, len)) {r : Option Value} (hf : pm_fin rt i len st = some r) : pm_K p l e R s m args below meth c cells slots (MQ below (pm_Qc ρ τ D sz r w) args s cells slots (fun q => sz ≤ q)) ρ τ D sz (pc, pl, st, w) := by
  intro H locs ls hSim hS hl
  have hq : ∀ t : State, t.heap = H → s.WarmedH t.vm → pm_Qc ρ τ D sz r w args s (.returned (r.map (pm_rn ρ))) t := fun t ht hW => ⟨⟨rfl, by rw [ht]; exact hSim⟩, hS.F ht⟩
  unfold pm_fin at hf
  split at hf
  · split at hf
    · rename_i hn; subst hn; cases hf; exact W.iret hx hb hr hq hS.2.2 hd hlocks
    · cases hf
  · split at hf
    · rename_i hn
      obtain ⟨hn, hv⟩ := hn
      subst hn; cases hf
      refine W.zret hx hb hr ?_ hq hS.2.2 hd hlocks
      rcases hv with rfl | rfl <;> rfl
    · cases hf
  · split at hf
    · rename_i hn; subst hn; cases hf; exact W.lret hx hb hr hq hS.2.2 hd hlocks
    · cases hf
  · split at hf
    · rename_i hn; subst hn; cases hf; exact W.vret hx hb hr hq hS.2.2 hd hlocks
    · cases hf
  · cases hf
end PMC
/-- what the machine does at a call of length or charAt of a String constant (shown in a later part) -/
def pm_ScOk (l : Launch) : Prop := ∀ (p : Program) (e : Env) (R : Room) (s : State) (m : MethodId) (args : Array Value) (below : List Frame) (meth : Method) (c : Code) (cells slots : Nat) (Q : State → Prop) (ρ : Nat → Nat) (τ : Nat → ClassId) (D : va_G) (sz : Nat) (aV : Nat → Nat) (cc : ByteArray) (i : Instr) (len pc o : Nat) (pl : pm_L) (st : List Value) (w : pm_H) (kd M' : Nat) (av rest : List Value) (v : Value),
  p.tables.exec = Jvm.exec → c.code = cc → c.maxLocals = pl.length → s.vm.findClass (pt_cn o) = some m.cls → (∀ w ∈ pm_tb, w.before args s = true) → pm_Kn ρ τ D sz aV s s.heap → decode cc pc = .ok (i, len) → pm_cl o i len st = some (kd, M', av, rest) → (kd = 3 ∨ kd = 4) → pm_sc kd av = some v → R.frames ≥ 6 → R.locals ≥ 150 → cells ≤ R.cells → slots ≤ R.slots → (rest.map fun v => v.category).sum ≤ 8 →
  pm_K p l e R s m args below meth c cells slots Q ρ τ D sz (pc + 3, pl, v :: rest, w) → pm_K p l e R s m args below meth c cells slots Q ρ τ D sz (pc, pl, st, w)
/-- what a configuration's run answers, from any of its states -/
def pm_B (l : Launch) (ρ : Nat → Nat) (τ : Nat → ClassId) (D : va_G) (sz : Nat) (aV : Nat → Nat) (n M : Nat) : Prop := ∀ (cf : pm_C) (r : Option Value) (w' : pm_H), pm_run n M cf = some (r, w') → ∀ (p : Program) (e : Env) (s : State) (m : MethodId) (args : Array Value) (below : List Frame) (meth : Method) (c : Code),
  p.tables.exec = Jvm.exec → c.code = pt_b M → c.maxLocals = pt_l M → s.vm.findClass (pt_cn (pt_o M)) = some m.cls → (∀ w ∈ pm_tb, w.before args s = true) → meth.sig.returnType = pt_r M → meth.locks = false → pm_Kn ρ τ D sz aV s s.heap →
  pm_K p l e (pm_rm M) s m args below meth c 0 0 (MQ below (pm_Qc ρ τ D sz r w') args s 0 0 (fun q => sz ≤ q)) ρ τ D sz cf
theorem pm_met_of {l : Launch} {ρ : Nat → Nat} {τ : Nat → ClassId} {D : va_G} {sz : Nat} {aV : Nat → Nat} {n M : Nat} (hY : pt_Yp M) (hB : pm_B l ρ τ D sz aV n M) {av : List Value} {w : pm_H} {r : Option Value} {w' : pm_H} (hlen : (lg_sl av).length ≤ pt_l M) (h : pm_run n M (0, pm_ent (pt_l M) av, [], w) = some (r, w')) : pm_Met l ρ τ D sz aV M av w r w' := by
  refine pm_ofW (cc := pt_b M) (maxL := pt_l M) (ret := pt_r M) hY.2.2.2.1 rfl ?_
  intro p e s m args below meth c s₁ B hml hP
  obtain ⟨rfl, hSim, hK⟩ := hP
  have hts0 := atoms_spec (ws := pm_ws M) B.pre
  have hown : s.vm.findClass (pt_cn (pt_o M)) = some m.cls := by rw [hY.2.2.2.2]; exact findClass_of_methodNamed B.named
  have hh := hB _ r w' h p e s m (av.map (pm_rn ρ)).toArray below meth c B.exec B.bytes hml hown (fun w hw => hts0 w (List.mem_cons_of_mem _ hw)) B.returns B.notSynchronized hK s.heap [] _ hSim va_S.rf (pm_ent_lh ρ av hlen)
  rw [lg_entry_eq]
  exact hh
theorem pm_sound {l : Launch} (hsc : pm_ScOk l) (ρ : Nat → Nat) (τ : Nat → ClassId) (D : va_G) (sz : Nat) (aV : Nat → Nat) : ∀ (n M : Nat), pm_B l ρ τ D sz aV n M := by
  intro n
  induction n with
  | zero => intro M cf r w' h; cases h
  | succ n ih =>
    intro M cf r w' h p e s m args below meth c hx hb hml hown hts hr hlocks hK
    obtain ⟨pc, pl, st, w⟩ := cf
    rw [pm_run] at h
    split at h
    · cases h
    · rename_i i len hd
      split at h
      · rename_i r2 hf
        cases h
        exact pm_fin_ok hx hb hr hlocks hd hf
      · split at h
        · rename_i kd M' av rest hc
          split at h
          · rename_i hk
            split at h
            · rename_i v hv
              split at h
              · rename_i hm
                exact hsc _ _ _ _ _ _ _ _ _ _ _ _ _ _ _ _ _ _ _ _ _ _ _ _ _ _ _ _ _ _ hx hb (hml.trans hm.1.symm) hown hts hK hd hc hk hv hm.2.1 hm.2.2.1 (Nat.le_refl _) (Nat.le_refl _) hm.2.2.2 (ih M _ r w' h p e s m args below meth c hx hb hml hown hts hr hlocks hK)
              · cases h
            · cases h
          · rename_i hk
            split at h
            · rename_i hm
              split at h
              · rename_i r2 w2 hr2
                have hall := pm_may_all hm
                have hY : pt_Yp M' := by
                  unfold pm_cl at hc
                  split at hc
                  · split at hc
                    · split at hc
                      · rename_i hpm; cases hc; exact (pt_M_ok hpm).2.2.2.1
                      · cases hc; exact absurd (Or.inl rfl) hk
                      · cases hc; exact absurd (Or.inr rfl) hk
                      · cases hc
                    · cases hc
                  · split at hc
                    · split at hc
                      · rename_i hpm; cases hc; exact (pt_M_ok hpm).2.2
                      · rename_i hpm; cases hc; exact (pt_M_ok hpm).2.1
                      · cases hc
                    · cases hc
                  · cases hc
                exact pm_call_ok hx hb (hml.trans hall.1.symm) hown hts hK hd hc hk hm ⟨rfl, rfl, Nat.le_refl _, Nat.le_refl _⟩ (pm_met_of hY (ih M') hall.2.2.2.2 hr2) (ih M _ r w' h p e s m args below meth c hx hb hml hown hts hr hlocks hK)
              · cases h
            · cases h
        · split at h
          · rename_i cf hs
            exact pm_s_ok hx hb hown hts hK hd hs (ih M cf r w' h p e s m args below meth c hx hb hml hown hts hr hlocks hK)
          · cases h
/-- the contract of a method, out of what its run answers -/
theorem pm_contract {l : Launch} (hsc : pm_ScOk l) (ρ : Nat → Nat) (τ : Nat → ClassId) (D : va_G) (sz : Nat) (aV : Nat → Nat) {M : Nat} (hY : pt_Yp M) {av : List Value} {w : pm_H} {r : Option Value} {w' : pm_H} (hlen : (lg_sl av).length ≤ pt_l M) (h : pm_call M av w = some (r, w')) : pm_Met l ρ τ D sz aV M av w r w' := by
  obtain ⟨n, hn⟩ := pm_evc_iff.mp h
  exact pm_met_of hY (pm_sound hsc ρ τ D sz aV n M) hlen hn
