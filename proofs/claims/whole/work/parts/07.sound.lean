/-! THE CELLS: soundness of field and array instructions, of calls, and of whole runs -/
theorem pm_ofW {l : Launch} {y : MethodName} {ws ws' : List Cond} {rm : Room} {Pc : Array Value → State → Prop} {Qc : Array Value → State → Outcome → State → Prop} {mc ms : Nat} {free : Addr → Prop} {cc : ByteArray} {maxL : Nat} {ret : Option FieldType}
    (hy : plainFor y = true) (hw : ws = Cond.code y cc maxL ret :: ws')
    (body : ∀ p e s m args below meth c s₁, BodyLoose p l y (headSpec ws rm) cc maxL ret e s m args below meth c s₁ → c.maxLocals = maxL → Pc args s →
      W p l e (headSpec ws rm).room s m args below meth c s.heap [] 0 0 (MQ below Qc args s mc ms free) (entryFrame m args maxL)) : Met l y ws rm Pc Qc mc ms free := by
  refine MetFree.of_bodySF (code := cc) (maxLocals := maxL) (ret := ret) hy ?_ ?_
  · intro args s m h hn
    obtain ⟨meth, c, h1, h2, h3, h4, h5, h6, -, -⟩ := Cond.code_spec hn (atoms_spec (ws := ws) h _ (by rw [hw]; exact List.mem_cons_self))
    exact ⟨meth, c, h1, h2, h3, h4, h5, h6⟩
  · intro p e s m args below meth c s₁ B hml hP _
    have hh0 : s₁.heap = s.heap := by rw [B.state]; rfl
    obtain ⟨t, a1, o, b1, b2, b3⟩ := body p e s m args below meth c s₁ B hml hP s₁ hh0 (Stand.of_body B)
    exact ⟨t, o, a1, b1, b2, ⟨b3.1, b3.2⟩⟩
theorem pm_Sim.set {ρ : Nat → Nat} {τ : Nat → ClassId} {D : va_G} {sz : Nat} {w : pm_H} {H H1 : Heap} {a : Nat} {e0 e : va_E} (h : pm_Sim ρ τ D sz w H) (ha : w a = some e0) (he : va_at D vwCl (ρ a, pm_cv ρ τ e) H1) (oq : ∀ q : Nat, q ≠ ρ a → H1[q]? = H[q]?) : pm_Sim ρ τ D sz (pm_up w a e) H1 := by
  have key : ∀ (k : Nat) (f : va_E), pm_up w a e k = some f → ∃ g, w k = some g := by
    intro k f hk
    unfold pm_up at hk
    split at hk
    · rename_i hka; subst hka; exact ⟨_, ha⟩
    · exact ⟨_, hk⟩
  refine ⟨fun k f hk => ?_, fun k j f g hk hj hkj => ?_⟩
  · by_cases hka : k = a
    · subst hka
      simp only [pm_up, if_true] at hk
      cases hk
      exact ⟨he, (h.1 k e0 ha).2⟩
    · simp only [pm_up, if_neg hka] at hk
      obtain ⟨h1, h2⟩ := h.1 k f hk
      exact ⟨h1.kept (oq _ (fun z => hka (h.2 k a f e0 hk ha z))), h2⟩
  · obtain ⟨f', hf⟩ := key k f hk
    obtain ⟨g', hg⟩ := key j g hj
    exact h.2 k j f' g' hf hg hkj
def pm_tys (τ : Nat → ClassId) : List (ClassId × FieldType) := [(τ 0, .int), (τ 1, .long), (τ 2, .byte)]
/-- the String constants of the desk's own refusals -/
def pt_tx : List (Nat × String) := [(104, "no such quarter"), (116, "a quarter has no such thing"), (250, "no such run of quarters"), (153, "no such instrument"), (169, "a run has no such thing")]
def pt_E : String := "java/util/NoSuchElementException"
def pt_dc : List MethodName := [Bundle.initS "java/lang/RuntimeException", Bundle.initS "java/lang/Exception", Bundle.initS Bundle.tN]
/-- statics of the JDK's, what a throw needs -/
def pm_Kx (sz : Nat) (U : State) (H : Heap) : Prop :=
  va_Z "java/lang/String" "COMPACT_STRINGS" "Z" (.int 1) (fun q => sz ≤ q) U H ∧ va_Zq "jdk/internal/util/Preconditions" "SIOOBE_FORMATTER" "Ljava/util/function/BiFunction;" (fun q => sz ≤ q) U H ∧ vx_Zq Bundle.tN "UNASSIGNED_STACK" Bundle.steD (fun q => sz ≤ q) U H ∧ vx_Zq Bundle.tN "SUPPRESSED_SENTINEL" Bundle.listD (fun q => sz ≤ q) U H ∧ (∀ q ∈ pt_tx, ∃ sa, vk_R RX5 q.1 q.2 sa U) ∧ va_Nw (.castable pt_E pt_E) U ∧ ∀ q ∈ pt_dc, va_Nw (.declares q) U
theorem pm_Kx.warm {sz : Nat} {s U : State} {H H1 : Heap} (hW : s.WarmedH U.vm) (hq : ∀ a : Nat, a < H.size → ¬ sz ≤ a → H1[a]? = H[a]?) (h : pm_Kx sz s H) : pm_Kx sz U H1 :=
  ⟨(h.1.moved hW.alike).kept hq, (h.2.1.moved hW.alike).kept hq, (h.2.2.1.moved hW.alike).kept hq, (h.2.2.2.1.moved hW.alike).kept hq, fun q hq => by obtain ⟨sa, h1⟩ := h.2.2.2.2.1 q hq; exact ⟨sa, vk_R.warm hW h1⟩, va_Nw.warmC hW h.2.2.2.2.2.1, fun q hq => va_Nw.warmD hW (h.2.2.2.2.2.2 q hq)⟩
theorem pm_Kx.same {sz : Nat} {s U : State} {H : Heap} (hv : s.vm = U.vm) (h : pm_Kx sz s H) : pm_Kx sz U H :=
  have ha : s.vm.Alike U.vm := by rw [hv]; exact Vm.Alike.refl _
  ⟨h.1.moved ha, h.2.1.moved ha, h.2.2.1.moved ha, h.2.2.2.1.moved ha, fun q hq => by obtain ⟨sa, h1⟩ := h.2.2.2.2.1 q hq; exact ⟨sa, vk_R.same hv.symm h1⟩, va_Nw.same rfl hv h.2.2.2.2.2.1, fun q hq => va_Nw.same rfl hv (h.2.2.2.2.2.2 q hq)⟩
/-- what the tables and the String constants say of a state -/
def pm_Kn (ρ : Nat → Nat) (τ : Nat → ClassId) (D : va_G) (sz : Nat) (aV : Nat → Nat) (U : State) (H : Heap) : Prop :=
  va_K D vwCl (pm_tys τ) U ∧ (∀ q ∈ pt_Nl, va_Nw (.methodLinkNest (pt_cn q.1) q.2.1 (pt_y q.2.2.2) RX5) U) ∧ (∀ j, j < pt_sx.length → vk_R RX2 (pt_sx.getD j (0, "")).1 (pt_sx.getD j (0, "")).2 (ρ (1000 + j)) U) ∧ vk_S pt_sx.length pt_sn pt_sb (fun j => ρ (1000 + j)) aV (fun q => sz ≤ q) U H ∧ pm_Kx sz U H
theorem pm_Kn.warm {ρ : Nat → Nat} {τ : Nat → ClassId} {D : va_G} {sz : Nat} {aV : Nat → Nat} {s U : State} {H H1 : Heap} (hW : s.WarmedH U.vm) (hq : ∀ a : Nat, a < H.size → ¬ sz ≤ a → H1[a]? = H[a]?) (h : pm_Kn ρ τ D sz aV s H) : pm_Kn ρ τ D sz aV U H1 :=
  ⟨va_K.moved hW.alike h.1, fun q hq => va_Nw.warmM hW (h.2.1 q hq), fun j hj => vk_R.warm hW (h.2.2.1 j hj), (h.2.2.2.1.moved hW.alike).kept hq, h.2.2.2.2.warm hW hq⟩
theorem pm_Kn.same {ρ : Nat → Nat} {τ : Nat → ClassId} {D : va_G} {sz : Nat} {aV : Nat → Nat} {s U : State} {H : Heap} (hv : s.vm = U.vm) (h : pm_Kn ρ τ D sz aV s H) : pm_Kn ρ τ D sz aV U H :=
  ⟨va_K.moved (by rw [hv]; exact Vm.Alike.refl _) h.1, fun q hq => va_Nw.same rfl hv (h.2.1 q hq), fun j hj => vk_R.same hv.symm (h.2.2.1 j hj), h.2.2.2.1.moved (by rw [hv]; exact Vm.Alike.refl _), h.2.2.2.2.same hv⟩
section PMH
variable {p : Program} {l : Launch} {e : Env} {R : Room} {s : State} {m : MethodId} {args : Array Value} {below : List Frame} {meth : Method} {c : Code} {cells slots : Nat} {Q : State → Prop}
variable {ρ : Nat → Nat} {τ : Nat → ClassId} {D : va_G} {sz : Nat} {aV : Nat → Nat} {cc : ByteArray} {i : Instr} {len pc o : Nat} {pl : pm_L} {st : List Value} {w : pm_H} {cf : pm_C}
theorem pm_get (hx : p.tables.exec = Jvm.exec) (hb : c.code = cc) (hown : s.vm.findClass (pt_cn o) = some m.cls) (hts : ∀ w ∈ pm_tb, w.before args s = true) (hK : pm_Kn ρ τ D sz aV s s.heap) {ix a ci k t : Nat} {fin : Bool} {v : Value} {r : List Value} (hF : pt_F o ix = some (ci, k, t, fin)) (hg : pm_gf (w a) ci k = some v) (hd : decode cc pc = .ok (.getfield ix, 3))
    (kk : pm_K p l e R s m args below meth c cells slots Q ρ τ D sz (pc + 3, pl, v :: r, w)) : pm_K p l e R s m args below meth c cells slots Q ρ τ D sz (pc, pl, .ref a :: r, w) := by
  intro H locs ls hSim hS hl
  obtain ⟨C, T, N, ty, ⟨h1, h2, h3, h4⟩, hk, hlink, -, -⟩ := pt_F_ok hF
  unfold pm_gf at hg
  split at hg
  · rename_i cx fs hw
    split at hg
    · rename_i hc
      subst hc
      have hP : va_P D vwCl [(ρ a, pm_cv ρ τ (.inr (cx, fs)))] H := fun j q hj => by
        cases j with
        | zero => cases hj; exact (hSim.1 a _ hw).1
        | succ j => cases hj
      exact va_get (ref := (T k).1) hx hb hts h2 hown hK.1 hP 0 (fs := fs.map (pm_rn ρ)) rfl h1 k hk (hts _ hlink) (fun x h => h) (by rw [List.getElem?_map, hg]; rfl) hd (kk H locs ls hSim hS hl)
    · cases hg
  · cases hg
theorem pm_fit {ρ : Nat → Nat} {ty : FieldType} {v : Value} (h : pm_vk v = pm_tk ty) : narrow ty (pm_rn ρ v) = pm_rn ρ v ∧ fits ty (pm_rn ρ v) = true := by
  cases v <;> cases ty <;> first | (cases h; done) | exact ⟨rfl, rfl⟩
theorem pm_put (hx : p.tables.exec = Jvm.exec) (hb : c.code = cc) (hown : s.vm.findClass (pt_cn o) = some m.cls) (hts : ∀ w ∈ pm_tb, w.before args s = true) (hK : pm_Kn ρ τ D sz aV s s.heap) {ix a ci k t : Nat} {v : Value} {r : List Value} {w' : pm_H} (hF : pt_F o ix = some (ci, k, t, false)) (hg : pm_pf w a (w a) ci k t v = some w') (hd : decode cc pc = .ok (.putfield ix, 3))
    (kk : pm_K p l e R s m args below meth c cells slots Q ρ τ D sz (pc + 3, pl, r, w')) : pm_K p l e R s m args below meth c cells slots Q ρ τ D sz (pc, pl, v :: .ref a :: r, w) := by
  intro H locs ls hSim hS hl
  obtain ⟨C, T, N, ty0, ⟨hc, h2, h3, h4⟩, hk, hlink, hfin, htk⟩ := pt_F_ok hF
  dsimp only at hc hk hlink hfin htk
  unfold pm_pf at hg
  split at hg
  · rename_i cx fs hw
    split at hg
    · rename_i hcc
      obtain ⟨hcx, hkl, hvt⟩ := hcc
      subst hcx
      cases hg
      obtain ⟨hn, hfit⟩ := pm_fit (ρ := ρ) (ty := ty0 k) (v := v) (hvt.trans htk.symm)
      have hap := va_apart (own := C) hts h2 ty0 h3 h4 hK.1 hc
      obtain ⟨⟨rr, hr1, cell, q1, q2, q3, q4⟩, hsz⟩ := hSim.1 a _ hw
      have hr : rr = (C, T, N) := Option.some.inj (hr1.symm.trans hc)
      subst hr
      obtain ⟨hSl, hfc, kC, hkC, hkind⟩ := hK.1.1 cx _ hc
      obtain ⟨cf, kf, fi, f, hi, hsl⟩ := hSl k hk
      have hlay := hts _ (h2 _ (u_in_lay hk))
      unfold u_lay at hlay
      rw [if_neg (by rw [hfin]; decide)] at hlay
      have hst := (u_facts hfc hkC (u_lays hts h2 hk) hi).1
      have h6 := u_store hfc hkC hkind hlay hi (h3 k hk) hn hfit
      refine W.putK hx hb (f := f) ⟨hown, hts _ hlink, ⟨_, _, _, hi⟩, hst⟩ (by rw [q2]; exact h6) q1 q3 (by rw [hsl]; exact k2_hasslot (q4 k hk)) rfl rfl hd fun H' e1 e2 e3 => ?_
      rw [hsl] at e1 ⊢
      refine kk H' _ ls (hSim.set hw ⟨_, hc, t_OB.to (V := updV (vp_V (fs.map (pm_rn ρ))) k (pm_rn ρ v)) ⟨_, e1, q2, q3, t_set q4 hap hk _⟩ (fun j _ => ?_)⟩ e3) (hS.put e2 e3 hsz) hl
      rw [vp_updV_set (by rw [List.length_map]; exact hkl), List.map_set]
    · cases hg
  · cases hg
theorem pm_iald (hx : p.tables.exec = Jvm.exec) (hb : c.code = cc) (hK : pm_Kn ρ τ D sz aV s s.heap) {a : Nat} {i : Int32} {v : Value} {r : List Value} (hg : pm_ia (w a) 0 i = some v) (hd : decode cc pc = .ok (.iaload, 1))
    (kk : pm_K p l e R s m args below meth c cells slots Q ρ τ D sz (pc + 1, pl, v :: r, w)) : pm_K p l e R s m args below meth c cells slots Q ρ τ D sz (pc, pl, .int i :: .ref a :: r, w) := by
  intro H locs ls hSim hS hl
  unfold pm_ia at hg
  split at hg
  · rename_i ty n f hw
    split at hg
    · rename_i ht
      subst ht
      split at hg
      · cases hg
      · rename_i hin
        cases hg
        have hP : va_P D vwCl [(ρ a, pm_cv ρ τ (.inl (0, n, .inl f)))] H := fun j q hj => by
          cases j with
          | zero => cases hj; exact (hSim.1 a _ hw).1
          | succ j => cases hj
        exact va_iald hx hb hK.1 hP 0 0 rfl rfl hin hd (kk H locs ls hSim hS hl)
    · cases hg
  · cases hg
theorem pm_bald (hx : p.tables.exec = Jvm.exec) (hb : c.code = cc) (hK : pm_Kn ρ τ D sz aV s s.heap) {a : Nat} {i : Int32} {v : Value} {r : List Value} (hg : pm_ia (w a) 2 i = some v) (hd : decode cc pc = .ok (.baload, 1))
    (kk : pm_K p l e R s m args below meth c cells slots Q ρ τ D sz (pc + 1, pl, v :: r, w)) : pm_K p l e R s m args below meth c cells slots Q ρ τ D sz (pc, pl, .int i :: .ref a :: r, w) := by
  intro H locs ls hSim hS hl
  unfold pm_ia at hg
  split at hg
  · rename_i ty n f hw
    split at hg
    · rename_i ht
      subst ht
      split at hg
      · cases hg
      · rename_i hin
        cases hg
        have hP : va_P D vwCl [(ρ a, pm_cv ρ τ (.inl (2, n, .inl f)))] H := fun j q hj => by
          cases j with
          | zero => cases hj; exact (hSim.1 a _ hw).1
          | succ j => cases hj
        exact va_bald hx hb hK.1 hP 0 2 rfl rfl hin hd (kk H locs ls hSim hS hl)
    · cases hg
  · cases hg
theorem pm_lald (hx : p.tables.exec = Jvm.exec) (hb : c.code = cc) (hK : pm_Kn ρ τ D sz aV s s.heap) {a : Nat} {i : Int32} {v : Value} {r : List Value} (hg : pm_la (w a) i = some v) (hd : decode cc pc = .ok (.laload, 1))
    (kk : pm_K p l e R s m args below meth c cells slots Q ρ τ D sz (pc + 1, pl, v :: r, w)) : pm_K p l e R s m args below meth c cells slots Q ρ τ D sz (pc, pl, .int i :: .ref a :: r, w) := by
  intro H locs ls hSim hS hl
  unfold pm_la at hg
  split at hg
  · rename_i ty n f hw
    split at hg
    · rename_i ht
      subst ht
      split at hg
      · cases hg
      · rename_i hin
        cases hg
        have hP : va_P D vwCl [(ρ a, pm_cv ρ τ (.inl (1, n, .inr (.inl f))))] H := fun j q hj => by
          cases j with
          | zero => cases hj; exact (hSim.1 a _ hw).1
          | succ j => cases hj
        exact va_lald hx hb hK.1 hP 0 1 rfl rfl hin hd (kk H locs ls hSim hS hl)
    · cases hg
  · cases hg
theorem pm_iast (hx : p.tables.exec = Jvm.exec) (hb : c.code = cc) (hK : pm_Kn ρ τ D sz aV s s.heap) {a : Nat} {i x : Int32} {r : List Value} {w' : pm_H} (hg : pm_is w a (w a) i x = some w') (hd : decode cc pc = .ok (.iastore, 1))
    (kk : pm_K p l e R s m args below meth c cells slots Q ρ τ D sz (pc + 1, pl, r, w')) : pm_K p l e R s m args below meth c cells slots Q ρ τ D sz (pc, pl, .int x :: .int i :: .ref a :: r, w) := by
  intro H locs ls hSim hS hl
  unfold pm_is at hg
  split at hg
  · rename_i ty n f hw
    split at hg
    · rename_i ht
      subst ht
      split at hg
      · cases hg
      · rename_i hin
        cases hg
        obtain ⟨hat, hsz⟩ := hSim.1 a _ hw
        refine W.iast hx hb hat ((hK.1.2 0 _ rfl).1 n (fun j => .int (f j))) (fun q => by cases q) (by show ¬ (i < 0 ∨ (arrV _ _ _).slots.size ≤ _); rw [arrV_size]; exact hin) rfl rfl hd fun H1 e1 z oq => ?_
        refine kk H1 _ ls (hSim.set hw ?_ oq) (hS.put z oq hsz) hl
        show H1[ρ a]? = some (vp_cell _ _)
        rw [e1]
        rw [vp_cell_i, vp_cell_i, arrV_store]
        congr 2
        funext q
        by_cases hq : q = i.toNatClampNeg
        · subst hq
          simp [updV, upd]
        · simp [updV, upd, hq]
    · cases hg
  · cases hg
theorem pm_bast (hx : p.tables.exec = Jvm.exec) (hb : c.code = cc) (hK : pm_Kn ρ τ D sz aV s s.heap) {a : Nat} {i x : Int32} {r : List Value} {w' : pm_H} (hg : pm_bs w a (w a) i x = some w') (hd : decode cc pc = .ok (.bastore, 1))
    (kk : pm_K p l e R s m args below meth c cells slots Q ρ τ D sz (pc + 1, pl, r, w')) : pm_K p l e R s m args below meth c cells slots Q ρ τ D sz (pc, pl, .int x :: .int i :: .ref a :: r, w) := by
  intro H locs ls hSim hS hl
  unfold pm_bs at hg
  split at hg
  · rename_i ty n f hw
    split at hg
    · rename_i ht
      subst ht
      split at hg
      · cases hg
      · rename_i hin
        cases hg
        obtain ⟨hat, hsz⟩ := hSim.1 a _ hw
        refine W.bast hx hb hat ((hK.1.2 2 _ rfl).1 n (fun j => .int (f j))) (fun q => by cases q) (by show ¬ (i < 0 ∨ (arrV _ _ _).slots.size ≤ _); rw [arrV_size]; exact hin) rfl rfl hd fun H1 e1 z oq => ?_
        refine kk H1 _ ls (hSim.set hw ?_ oq) (hS.put z oq hsz) hl
        show H1[ρ a]? = some (vp_cell _ _)
        rw [e1]
        rw [vp_cell_i, vp_cell_i, arrV_store]
        congr 2
        funext q
        by_cases hq : q = i.toNatClampNeg
        · subst hq
          simp [updV, upd, vp_nar]
          try rfl
        · simp [updV, upd, hq]
    · cases hg
  · cases hg
theorem pm_last (hx : p.tables.exec = Jvm.exec) (hb : c.code = cc) (hK : pm_Kn ρ τ D sz aV s s.heap) {a : Nat} {i : Int32} {x : Int64} {r : List Value} {w' : pm_H} (hg : pm_ls w a (w a) i x = some w') (hd : decode cc pc = .ok (.lastore, 1))
    (kk : pm_K p l e R s m args below meth c cells slots Q ρ τ D sz (pc + 1, pl, r, w')) : pm_K p l e R s m args below meth c cells slots Q ρ τ D sz (pc, pl, .long x :: .int i :: .ref a :: r, w) := by
  intro H locs ls hSim hS hl
  unfold pm_ls at hg
  split at hg
  · rename_i ty n f hw
    split at hg
    · rename_i ht
      subst ht
      split at hg
      · cases hg
      · rename_i hin
        cases hg
        obtain ⟨hat, hsz⟩ := hSim.1 a _ hw
        refine W.last hx hb hat ((hK.1.2 1 _ rfl).1 n (fun j => .long (f j))) (fun q => by cases q) (by show ¬ (i < 0 ∨ (arrV _ _ _).slots.size ≤ _); rw [arrV_size]; exact hin) rfl rfl hd fun H1 e1 z oq => ?_
        refine kk H1 _ ls (hSim.set hw ?_ oq) (hS.put z oq hsz) hl
        show H1[ρ a]? = some (vp_cell _ _)
        rw [e1]
        rw [vp_cell_l, vp_cell_l, arrV_store]
        congr 2
        funext q
        by_cases hq : q = i.toNatClampNeg
        · subst hq
          simp [updV, vp_updL]
        · simp [updV, vp_updL, hq]
    · cases hg
  · cases hg
theorem pm_sH_ok (hx : p.tables.exec = Jvm.exec) (hb : c.code = cc) (hown : s.vm.findClass (pt_cn o) = some m.cls) (hts : ∀ w ∈ pm_tb, w.before args s = true) (hK : pm_Kn ρ τ D sz aV s s.heap) (hd : decode cc pc = .ok (i, len)) (hs : pm_sH (pt_F o) (pt_K o) i len pc pl st w = some cf) (k : pm_K p l e R s m args below meth c cells slots Q ρ τ D sz cf) : pm_K p l e R s m args below meth c cells slots Q ρ τ D sz (pc, pl, st, w) := by
  unfold pm_sH at hs
  split at hs
  · split at hs
    · rename_i hn; subst hn
      split at hs
      · rename_i hF
        split at hs
        · rename_i v hg; cases hs; exact pm_get hx hb hown hts hK hF hg hd k
        · cases hs
      · cases hs
    · cases hs
  · split at hs
    · rename_i hn; subst hn
      split at hs
      · rename_i hF
        split at hs
        · rename_i v hg; cases hs; exact pm_put hx hb hown hts hK hF hg hd k
        · cases hs
      · cases hs
    · cases hs
  · split at hs
    · rename_i hn; subst hn
      split at hs
      · rename_i hg; cases hs; exact pm_iald hx hb hK hg hd k
      · cases hs
    · cases hs
  · split at hs
    · rename_i hn; subst hn
      split at hs
      · rename_i hg; cases hs; exact pm_bald hx hb hK hg hd k
      · cases hs
    · cases hs
  · split at hs
    · rename_i hn; subst hn
      split at hs
      · rename_i hg; cases hs; exact pm_lald hx hb hK hg hd k
      · cases hs
    · cases hs
  · split at hs
    · rename_i hn; subst hn
      split at hs
      · rename_i hg; cases hs; exact pm_iast hx hb hK hg hd k
      · cases hs
    · cases hs
  · split at hs
    · rename_i hn; subst hn
      split at hs
      · rename_i hg; cases hs; exact pm_bast hx hb hK hg hd k
      · cases hs
    · cases hs
  · split at hs
    · rename_i hn; subst hn
      split at hs
      · rename_i hg; cases hs; exact pm_last hx hb hK hg hd k
      · cases hs
    · cases hs
  · split at hs
    · rename_i hn; subst hn
      split at hs
      · rename_i v hv
        split at hs
        · cases hs
        · rename_i hk
          cases hs
          intro H locs ls hSim hS hl
          have k := k H locs ls hSim hS hl
          rcases pt_K_ok hv with h | ⟨ho, j, hj, h1, h2⟩
          · cases v with
            | int v => exact lv_ldc hx hb hown (hts _ h) hd k
            | long v => exact absurd rfl hk
            | float _ => exact h.elim
            | double _ => exact h.elim
            | null => exact h.elim
            | ref _ => exact h.elim
            | retAddr _ => exact h.elim
          · subst h2
            subst ho
            refine va_ldcS hx hb hown (hK.2.2.1 j hj) ?_ k
            rw [h1]
            exact hd
      · cases hs
    · cases hs
  · split at hs
    · rename_i hn; subst hn
      split at hs
      · rename_i v hv
        split at hs
        · rename_i hk
          cases hs
          intro H locs ls hSim hS hl
          have k := k H locs ls hSim hS hl
          rcases pt_K_ok hv with h | ⟨ho, j, hj, h1, h2⟩
          · cases v with
            | int v => exact lv_ldcw hx hb hown (hts _ h) hd k
            | long v => cases hk
            | float _ => exact h.elim
            | double _ => exact h.elim
            | null => exact h.elim
            | ref _ => exact h.elim
            | retAddr _ => exact h.elim
          · subst h2; cases hk
        · cases hs
      · cases hs
    · cases hs
  · split at hs
    · rename_i hn; subst hn
      split at hs
      · rename_i v hv
        split at hs
        · rename_i hk
          cases hs
          intro H locs ls hSim hS hl
          have k := k H locs ls hSim hS hl
          rcases pt_K_ok hv with h | ⟨ho, j, hj, h1, h2⟩
          · cases v with
            | int v => cases hk
            | long v => exact lv_ldc2 hx hb hown (hts _ h) hd k
            | float _ => exact h.elim
            | double _ => exact h.elim
            | null => exact h.elim
            | ref _ => exact h.elim
            | retAddr _ => exact h.elim
          · subst h2; cases hk
        · cases hs
      · cases hs
    · cases hs
  · cases hs
theorem pm_s_ok (hx : p.tables.exec = Jvm.exec) (hb : c.code = cc) (hown : s.vm.findClass (pt_cn o) = some m.cls) (hts : ∀ w ∈ pm_tb, w.before args s = true) (hK : pm_Kn ρ τ D sz aV s s.heap) (hd : decode cc pc = .ok (i, len)) (hs : pm_s (pt_F o) (pt_K o) i len pc pl st w = some cf) (k : pm_K p l e R s m args below meth c cells slots Q ρ τ D sz cf) : pm_K p l e R s m args below meth c cells slots Q ρ τ D sz (pc, pl, st, w) := by
  rcases pm_or_some hs with h | h
  · exact pm_sA_ok hx hb hd h k
  rcases pm_or_some h with h | h
  · exact pm_sB_ok hx hb hd h k
  rcases pm_or_some h with h | h
  · exact pm_sC_ok hx hb hd h k
  rcases pm_or_some h with h | h
  · exact pm_sD_ok hx hb hd h k
  rcases pm_or_some h with h | h
  · exact pm_sE_ok hx hb hd h k
  rcases pm_or_some h with h | h
  · exact pm_sF_ok hx hb hd h k
  rcases pm_or_some h with h | h
  · exact pm_sG_ok hx hb hd h k
  · exact pm_sH_ok hx hb hown hts hK hd h k
end PMH
