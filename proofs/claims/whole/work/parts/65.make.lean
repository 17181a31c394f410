/-! WORLDS AS LISTS; the rules that make cells; constructors -/
abbrev pc_Ls : Type := List (Nat × va_E)
def pc_w (L : pc_Ls) : pm_H := match L with
  | [] => fun _ => none
  | q :: t => fun k => if k = q.1 then some q.2 else pc_w t k
def pc_set (L : pc_Ls) (k : Nat) (e : va_E) : pc_Ls := match L with
  | [] => [(k, e)]
  | q :: t => if q.1 = k then (k, e) :: t else q :: pc_set t k e
theorem pc_up (L : pc_Ls) (k : Nat) (e : va_E) : pm_up (pc_w L) k e = pc_w (pc_set L k e) := by
  induction L with
  | nil => rfl
  | cons q t ih =>
    funext j
    have ih := congrFun ih j
    simp only [pm_up] at ih ⊢
    by_cases hq : q.1 = k
    · simp only [pc_set, if_pos hq, pc_w]
      by_cases hj : j = k
      · rw [if_pos hj, if_pos hj]
      · rw [if_neg hj, if_neg hj, hq, if_neg hj]
    · simp only [pc_set, if_neg hq, pc_w]
      by_cases hj : j = k
      · subst hj
        rw [if_pos rfl] at ih ⊢
        rw [if_neg (Ne.symm hq)]
        exact ih
      · rw [if_neg hj] at ih ⊢
        rw [ih]
theorem pc_in {L : pc_Ls} {k : Nat} {e : va_E} (h : pc_w L k = some e) : (k, e) ∈ L := by
  induction L with
  | nil => cases h
  | cons q t ih =>
    simp only [pc_w] at h
    split at h
    · rename_i hk
      cases h
      subst hk
      exact List.mem_cons_self
    · exact List.mem_cons_of_mem _ (ih h)
/-- two lists that differ on the names of S only -/
theorem pc_out {L : pc_Ls} (S : Nat → Bool) {k : Nat} (hk : S k = false) : pc_w L k = pc_w (L.filter (fun q => !S q.1)) k := by
  induction L with
  | nil => rfl
  | cons q t ih =>
    rw [List.filter_cons]
    by_cases hq : k = q.1
    · subst hq
      rw [hk]
      simp [pc_w]
    · cases hs : S q.1 <;> simp [pc_w, hq, ih]
theorem pc_eq (S : Nat → Bool) {w : pm_H} {L L' : pc_Ls} (h1 : ∀ k, S k = false → w k = pc_w L k) (h2 : ∀ k, S k = true → w k = pc_w L' k) (h3 : L.filter (fun q => !S q.1) = L'.filter (fun q => !S q.1)) : w = pc_w L' := by
  funext k
  cases hs : S k with
  | true => exact h2 k hs
  | false => rw [h1 k hs, pc_out S hs, h3, ← pc_out S hs]
def pc_vr (N : Nat) (v : Value) : Bool := match v with
  | .ref k => Nat.blt k N || Nat.ble 900 k
  | _ => true
def pc_er (N : Nat) (e : va_E) : Bool := match e with
  | .inl _ => true
  | .inr o => o.2.all (pc_vr N)
def pc_fr (N : Nat) (L : pc_Ls) : Bool := L.all (fun q => Nat.blt q.1 N && pc_er N q.2)
def pc_lr (N : Nat) (pl : pm_L) : Bool := pl.all (fun o => match o with
  | some v => pc_vr N v
  | none => true)
def pc_ag (N : Nat) (ρ ρ' : Nat → Nat) : Prop := ∀ k, k < N ∨ 900 ≤ k → ρ' k = ρ k
section PCA
variable {N : Nat} {ρ ρ' ρ2 : Nat → Nat} {τ : Nat → ClassId} {D : va_G} {sz : Nat} {aV : Nat → Nat}
theorem pc_ag.trans {N2 : Nat} (h : pc_ag N ρ ρ') (h2 : pc_ag N2 ρ' ρ2) (hn : N ≤ N2) : pc_ag N ρ ρ2 := fun k hk => (h2 k (by omega)).trans (h k hk)
theorem pc_ag.rf : pc_ag N ρ ρ := fun _ _ => rfl
theorem pc_ag.vr (h : pc_ag N ρ ρ') {v : Value} (hv : pc_vr N v = true) : pm_rn ρ' v = pm_rn ρ v := by
  cases v <;> try rfl
  rename_i k
  have hv : (Nat.blt k N || Nat.ble 900 k) = true := hv
  show Value.ref (ρ' k) = Value.ref (ρ k)
  rw [h k]
  rcases Bool.or_eq_true _ _ ▸ hv with h1 | h1
  · exact Or.inl (by simpa [Nat.blt_eq] using h1)
  · exact Or.inr (Nat.le_of_ble_eq_true h1)
theorem pc_ag.st (h : pc_ag N ρ ρ') {st : List Value} (hv : st.all (pc_vr N) = true) : st.map (pm_rn ρ') = st.map (pm_rn ρ) :=
  List.map_congr_left (fun v hm => h.vr (List.all_eq_true.mp hv v hm))
theorem pc_ag.er (h : pc_ag N ρ ρ') {e : va_E} (hv : pc_er N e = true) : pm_cv ρ' τ e = pm_cv ρ τ e := by
  cases e with
  | inl a => rfl
  | inr o =>
    show Sum.inr (o.1, o.2.map (pm_rn ρ')) = Sum.inr (o.1, o.2.map (pm_rn ρ))
    rw [h.st hv]
theorem pc_ag.lh (h : pc_ag N ρ ρ') {pl : pm_L} {ls : Array Slot} (hv : pc_lr N pl = true) (hl : pm_lh ρ ls pl) : pm_lh ρ' ls pl := by
  refine ⟨hl.1, hl.2.1, fun i v hi => ?_⟩
  rw [h.vr]
  · exact hl.2.2 i v hi
  · have := List.all_eq_true.mp hv _ (List.mem_of_getElem? hi)
    exact this
theorem pc_fr.at {L : pc_Ls} (hf : pc_fr N L = true) {k : Nat} {e : va_E} (h : pc_w L k = some e) : k < N ∧ pc_er N e = true := by
  have h1 := List.all_eq_true.mp hf _ (pc_in h)
  have h2 := Bool.and_eq_true _ _ ▸ h1
  exact ⟨by simpa [Nat.blt_eq] using h2.1, h2.2⟩
theorem pc_ag.sim (h : pc_ag N ρ ρ') {L : pc_Ls} {H : Heap} (hf : pc_fr N L = true) (hS : pm_Sim ρ τ D sz (pc_w L) H) : pm_Sim ρ' τ D sz (pc_w L) H := by
  refine ⟨fun k e hk => ?_, fun k j e f hk hj hkj => ?_⟩
  · obtain ⟨h1, h2⟩ := pc_fr.at hf hk
    rw [h.er h2, h k (Or.inl h1)]
    exact hS.1 k e hk
  · rw [h k (Or.inl (pc_fr.at hf hk).1), h j (Or.inl (pc_fr.at hf hj).1)] at hkj
    exact hS.2 k j e f hk hj hkj
theorem pc_ag.kn (h : pc_ag N ρ ρ') {U : State} {H : Heap} (hK : pm_Kn ρ τ D sz aV U H) : pm_Kn ρ' τ D sz aV U H := by
  have e : (fun j => ρ' (1000 + j)) = fun j => ρ (1000 + j) := funext fun j => h _ (Or.inr (by omega))
  refine ⟨hK.1, hK.2.1, fun j hj => ?_, ?_, hK.2.2.2.2⟩
  · rw [h _ (Or.inr (by omega))]
    exact hK.2.2.1 j hj
  · rw [e]
    exact hK.2.2.2.1
def pc_ex (ρ : Nat → Nat) (N a : Nat) : Nat → Nat := fun j => if j = N then a else ρ j
theorem pc_ex_ag {a : Nat} (hN : N < 900) : pc_ag N ρ (pc_ex ρ N a) := fun k hk => if_neg (by omega)
theorem pc_born {L : pc_Ls} {H H1 : Heap} {e : va_E} (hf : pc_fr N L = true) (hN : N < 900) (hS : pm_Sim ρ τ D sz (pc_w L) H) (hq : ∀ q : Nat, q < H.size → H1[q]? = H[q]?) (hsz : sz ≤ H.size) (he : va_at D vwCl (H.size, pm_cv (pc_ex ρ N H.size) τ e) H1) : pm_Sim (pc_ex ρ N H.size) τ D sz (pc_w ((N, e) :: L)) H1 := by
  have hS1 := ((pc_ex_ag (a := H.size) hN).sim hf hS).kept hq
  have hN1 : pc_ex ρ N H.size N = H.size := if_pos rfl
  have key : ∀ (k : Nat) (f : va_E), pc_w ((N, e) :: L) k = some f → (k = N ∧ f = e) ∨ (k ≠ N ∧ pc_w L k = some f) := by
    intro k f hk
    simp only [pc_w] at hk
    split at hk
    · rename_i h; cases hk; exact Or.inl ⟨h, rfl⟩
    · rename_i h; exact Or.inr ⟨h, hk⟩
  have lt : ∀ (k : Nat) (f : va_E), pc_w L k = some f → pc_ex ρ N H.size k < H.size := by
    intro k f hk
    have h1 := (hS.1 k f hk).1.lt
    rw [pc_ex_ag (a := H.size) hN k (Or.inl (pc_fr.at hf hk).1)]
    exact h1
  refine ⟨fun k f hk => ?_, fun k j f g hk hj hkj => ?_⟩
  · rcases key k f hk with ⟨rfl, rfl⟩ | ⟨-, h2⟩
    · rw [hN1]
      exact ⟨he, hsz⟩
    · exact hS1.1 k f h2
  · rcases key k f hk with ⟨h1, -⟩ | ⟨-, h2⟩ <;> rcases key j g hj with ⟨h3, -⟩ | ⟨-, h4⟩
    · rw [h1, h3]
    · have := lt j g h4
      rw [h1, hN1] at hkj
      omega
    · have := lt k f h2
      rw [h3, hN1] at hkj
      omega
    · exact hS1.2 k j f g h2 h4 hkj
end PCA
section PCR
variable {p : Program} {l : Launch} {e : Env} {R : Room} {s : State} {m : MethodId} {args : Array Value} {below : List Frame} {meth : Method} {c : Code} {cells slots : Nat} {Q : State → Prop}
variable {ρ : Nat → Nat} {τ : Nat → ClassId} {D : va_G} {sz : Nat} {aV : Nat → Nat} {cc : ByteArray} {pc N : Nat} {pl : pm_L} {st : List Value} {L L' : pc_Ls}
theorem pc_new {own C : String} {T : u_T} {ty : Nat → FieldType} {ix ci Nn : Nat} {fs : List Value} (hx : p.tables.exec = Jvm.exec) (hb : c.code = cc) (hown : s.vm.findClass own = some m.cls) (hts : ∀ w ∈ pm_tb, w.before args s = true) (hK : pm_Kn ρ τ D sz aV s s.heap) (hsz : sz ≤ s.heap.size) (hC : pt_Cl ci C T Nn ty)
    (q1 : Cond.classLink own ix C ∈ pm_tb) (q2 : Cond.instantiable C Nn ∈ pm_tb) (q3 : Cond.initialized C ∈ pm_tb) (hfs : ∀ j, j < Nn → defaultValue (ty j) = vp_V fs j) (hnr : ∀ ρ', fs.map (pm_rn ρ') = fs) (hf : pc_fr N L = true) (hN : N < 900) (hpl : pc_lr N pl = true) (hst : st.all (pc_vr N) = true) (hc : cells + 1 ≤ R.cells) (hs : slots + Nn ≤ R.slots) (hd : decode cc pc = .ok (.new ix, 3))
    (kk : ∀ ρ1, pc_ag N ρ ρ1 → pm_K p l e R s m args below meth c (cells + 1) (slots + Nn) Q ρ1 τ D sz (pc + 3, pl, .ref N :: st, pc_w ((N, .inr (ci, fs)) :: L))) : pm_K p l e R s m args below meth c cells slots Q ρ τ D sz (pc, pl, st, pc_w L) := by
  intro H locs ls hSim hS hl
  obtain ⟨h1, h2, h3, h4⟩ := hC
  have hKn := hK.1.1 ci _ h1
  refine W.newcK hx hb hown (hts _ q1) (hts _ q2) (hts _ q3) rfl hd hc hs hKn.2.1 rfl fun H1 kC hkC e1 z1 o1 => ?_
  have hA := pc_ex_ag (ρ := ρ) (a := H.size) hN
  have hat : va_at D vwCl (H.size, pm_cv (pc_ex ρ N H.size) τ (.inr (ci, fs))) H1 := by
    show ∃ r : vw_C, vwCl[ci]? = some r ∧ t_OB H.size (D.1 ci) r.2.2 (D.2 ci) H1 (vp_V (fs.map (pm_rn (pc_ex ρ N H.size))))
    rw [hnr]
    exact ⟨_, h1, (u_born ty hts h2 hKn hkC e1 h3).to hfs⟩
  have := kk _ hA H1 locs ls (pc_born hf hN hSim o1 (Nat.le_trans hsz hS.1) hat) ⟨Nat.le_trans hS.1 (by omega), fun x a1 a2 => (o1 x (Nat.lt_of_lt_of_le a1 hS.1)).trans (hS.2.1 x a1 a2), hS.2.2⟩ (hA.lh hpl hl)
  have e9 : (Value.ref N :: st).map (pm_rn (pc_ex ρ N H.size)) = .ref H.size :: st.map (pm_rn ρ) := by
    rw [List.map_cons, hA.st hst]
    show Value.ref (pc_ex ρ N H.size N) :: _ = _
    rw [show pc_ex ρ N H.size N = H.size from if_pos rfl]
  dsimp only at this
  rw [e9] at this
  exact this
theorem pc_newa {t N' : Nat} {ty : FieldType} {atype : ArrayType} {a0 : vp_A} {n : Int32} (hx : p.tables.exec = Jvm.exec) (hb : c.code = cc) (hts : ∀ w ∈ pm_tb, w.before args s = true) (hK : pm_Kn ρ τ D sz aV s s.heap) (hsz : sz ≤ s.heap.size) (hty : newarray.typeOf atype = ty) (ht : (pm_tys τ)[t]? = some (τ t, ty)) (hra : va_RA s (τ t) ty → s.vm.findClass ("[" ++ ty.toString) = some (τ t)) (q1 : Cond.arrayClass ty ∈ pm_tb)
    (ha : ∀ cA : ClassId, vp_cell cA a0 = arrV cA N' (fun _ => defaultValue ty)) (hn : ¬ n < 0) (hN' : n.toNatClampNeg = N') (hby : N' * componentBytes ty ≤ 536870912) (hf : pc_fr N L = true) (hN : N < 900) (hpl : pc_lr N pl = true) (hst : st.all (pc_vr N) = true) (hc : cells + 1 ≤ R.cells) (hs : slots + N' ≤ R.slots) (hd : decode cc pc = .ok (.newarray atype, 2))
    (kk : ∀ ρ1, pc_ag N ρ ρ1 → pm_K p l e R s m args below meth c (cells + 1) (slots + N') Q ρ1 τ D sz (pc + 2, pl, .ref N :: st, pc_w ((N, .inl (t, a0)) :: L))) : pm_K p l e R s m args below meth c cells slots Q ρ τ D sz (pc, pl, .int n :: st, pc_w L) := by
  intro H locs ls hSim hS hl
  subst hty
  have hcls := hra (hK.1.2 t _ ht).2
  refine va_newaK hx hb (hts _ q1) rfl hd rfl hn hN' hby hc hs rfl fun H1 cA e1 z1 o1 hAr hNm => ?_
  have hcA : cA = τ t := Option.some.inj (hNm.symm.trans hcls)
  subst hcA
  have hA := pc_ex_ag (ρ := ρ) (a := H.size) hN
  have hat : va_at D vwCl (H.size, pm_cv (pc_ex ρ N H.size) τ (.inl (t, a0))) H1 := by
    show H1[H.size]? = some (vp_cell (τ t) a0)
    rw [ha]
    exact e1
  have := kk _ hA H1 locs ls (pc_born hf hN hSim o1 (Nat.le_trans hsz hS.1) hat) ⟨Nat.le_trans hS.1 (by omega), fun x a1 a2 => (o1 x (Nat.lt_of_lt_of_le a1 hS.1)).trans (hS.2.1 x a1 a2), hS.2.2⟩ (hA.lh hpl hl)
  have e9 : (Value.ref N :: st).map (pm_rn (pc_ex ρ N H.size)) = .ref H.size :: st.map (pm_rn ρ) := by
    rw [List.map_cons, hA.st hst]
    show Value.ref (pc_ex ρ N H.size N) :: _ = _
    rw [show pc_ex ρ N H.size N = H.size from if_pos rfl]
  dsimp only at this
  rw [e9] at this
  exact this
theorem pc_put {o ix a ci k t : Nat} {v : Value} {fs : List Value} (hx : p.tables.exec = Jvm.exec) (hb : c.code = cc) (hown : s.vm.findClass (pt_cn o) = some m.cls) (hts : ∀ w ∈ pm_tb, w.before args s = true) (hK : pm_Kn ρ τ D sz aV s s.heap) (hF : pt_F o ix = some (ci, k, t, false)) (hw : pc_w L a = some (.inr (ci, fs))) (hk : k < fs.length) (hv : pm_vk v = t) (hL : pc_set L a (.inr (ci, fs.set k v)) = L') (hd : decode cc pc = .ok (.putfield ix, 3))
    (kk : pm_K p l e R s m args below meth c cells slots Q ρ τ D sz (pc + 3, pl, st, pc_w L')) : pm_K p l e R s m args below meth c cells slots Q ρ τ D sz (pc, pl, v :: .ref a :: st, pc_w L) := by
  refine pm_put hx hb hown hts hK hF (w' := pc_w L') ?_ hd kk
  rw [hw, ← hL, ← pc_up]
  show (if ci = ci ∧ k < fs.length ∧ pm_vk v = t then some (pm_up (pc_w L) a (.inr (ci, fs.set k v))) else none) = _
  rw [if_pos ⟨rfl, hk, hv⟩]
theorem pc_putF {o ix a ci k t : Nat} {v : Value} {fs : List Value} (hx : p.tables.exec = Jvm.exec) (hb : c.code = cc) (hown : s.vm.findClass (pt_cn o) = some m.cls) (hts : ∀ w ∈ pm_tb, w.before args s = true) (hK : pm_Kn ρ τ D sz aV s s.heap) (hin2 : meth.name = "<init>") (hdecl : ∀ q, vwCl[ci]? = some q → (q.2.1 k).1 = pt_cn o) (hF : pt_F o ix = some (ci, k, t, true)) (hw : pc_w L a = some (.inr (ci, fs))) (hkl : k < fs.length) (hv : pm_vk v = t) (hL : pc_set L a (.inr (ci, fs.set k v)) = L') (hd : decode cc pc = .ok (.putfield ix, 3))
    (kk : pm_K p l e R s m args below meth c cells slots Q ρ τ D sz (pc + 3, pl, st, pc_w L')) : pm_K p l e R s m args below meth c cells slots Q ρ τ D sz (pc, pl, v :: .ref a :: st, pc_w L) := by
  intro H locs ls hSim hS hl
  obtain ⟨C, T, Nn, ty0, ⟨hc, h2, h3, h4⟩, hk, hlink, hfin, htk⟩ := pt_F_ok hF
  dsimp only at hc hk hlink hfin htk
  have hdec : (T k).1 = pt_cn o := hdecl _ hc
  obtain ⟨hn, hfit⟩ := pm_fit (ρ := ρ) (ty := ty0 k) (v := v) (hv.trans htk.symm)
  have hap := va_apart (own := C) hts h2 ty0 h3 h4 hK.1 hc
  obtain ⟨⟨rr, hr1, cell, q1, q2, q3, q4⟩, hsz⟩ := hSim.1 a _ hw
  have hr : rr = (C, T, Nn) := Option.some.inj (hr1.symm.trans hc)
  subst hr
  obtain ⟨hSl, hfc, kC, hkC, hkind⟩ := hK.1.1 ci _ hc
  obtain ⟨cf, kf, fi, f, hi, hsl⟩ := hSl k hk
  have hlay := hts _ (h2 _ (u_in_lay hk))
  unfold u_lay at hlay
  rw [if_pos hfin] at hlay
  have hst := (u_facts hfc hkC (u_lays hts h2 hk) hi).1
  have hcf : m.cls = cf := by
    obtain ⟨_, _, c', _, _, _, -, -, hf', -, -, -, hown2, -⟩ := Cond.laysFinal_spec hlay
    have e1 : c' = cf := by have := hi.symm.trans hf'; simp at this; exact this.1.symm
    rw [hdec] at hown2
    rw [← e1]; exact Option.some.inj (hown.symm.trans hown2)
  have h6 := u_fits hfc hkC hkind (Or.inr hlay) hi (h3 k hk) hn hfit
  refine W.putFinK hx hb hown (hts _ hlink) hi hst hcf hin2 (by rw [q2]; exact h6) q1 q3 (by rw [hsl]; exact k2_hasslot (q4 k hk)) rfl rfl hd fun H' e1 e2 e3 => ?_
  rw [hsl] at e1 ⊢
  refine kk H' _ ls ?_ (hS.put e2 e3 hsz) hl
  show pm_Sim ρ τ D sz (pc_w L') H'
  rw [← hL, ← pc_up]
  refine hSim.set hw ⟨_, hc, t_OB.to (V := updV (vp_V (fs.map (pm_rn ρ))) k (pm_rn ρ v)) ⟨_, e1, q2, q3, t_set q4 hap hk _⟩ (fun j _ => ?_)⟩ e3
  rw [vp_updV_set (by rw [List.length_map]; exact hkl), List.map_set]
theorem pc_obj {own : String} {ix a : Nat} {w : pm_H} (hx : p.tables.exec = Jvm.exec) (hb : c.code = cc) (hml : c.maxLocals = pl.length) (hown : s.vm.findClass own = some m.cls) (hts : ∀ w ∈ pm_tb, w.before args s = true) (q1 : Cond.methodLink own ix Lib.objectInit ∈ pm_tb) (hR : 1 ≤ R.frames ∧ 20 ≤ R.locals) (hsum : (st.map fun v => v.category).sum ≤ 8) (hd : decode cc pc = .ok (.invokespecial ix, 3))
    (kk : pm_K p l e R s m args below meth c cells slots Q ρ τ D sz (pc + 3, pl, st, w)) : pm_K p l e R s m args below meth c cells slots Q ρ τ D sz (pc, pl, .ref a :: st, w) := by
  intro H locs ls hSim hS hl
  refine W.objInit hx hb hown (hts _ q1) (hts _ (pm_in 84 (by decide +kernel) rfl)) (hts _ (pm_in 85 (by decide +kernel) rfl)) rfl (hl.1.trans hml.symm) rfl hd hR.1 ?_ ?_
  · show 2 * 0 + ((st.map (pm_rn ρ)).map fun v => v.category).sum + 12 ≤ R.locals
    rw [pm_sum]
    omega
  · exact W.eq (g2 := F0 m (pc + 3) ls (st.map (pm_rn ρ))) rfl (kk H locs ls hSim hS hl)
/-! contracts of constructors -/
def pc_Qc (ρ : Nat → Nat) (τ : Nat → ClassId) (D : va_G) (sz N0 : Nat) (w' : pm_H) : Array Value → State → Outcome → State → Prop := fun _ st oc t => (oc = .returned none ∧ ∃ ρ', pc_ag N0 ρ ρ' ∧ pm_Sim ρ' τ D sz w' t.heap) ∧ va_F (fun q => sz ≤ q) st t
def pc_Met (l : Launch) (ρ : Nat → Nat) (τ : Nat → ClassId) (D : va_G) (sz : Nat) (aV : Nat → Nat) (y : MethodName) (cb : ByteArray) (maxL : Nat) (rm : Room) (mc ms N0 : Nat) (av : List Value) (L L' : pc_Ls) : Prop :=
  Met l y (Cond.code y cb maxL none :: pm_tb) rm (pm_Pc ρ τ D sz aV av (pc_w L)) (pc_Qc ρ τ D sz N0 (pc_w L')) mc ms (fun q => sz ≤ q)
theorem pc_open {y : MethodName} {cb : ByteArray} {o maxL mc ms N0 k : Nat} {e0 : va_E} {rm : Room} {av : List Value} (hy : plainFor y = true) (hyn : y.name = "<init>") (hcls : pt_cn o = y.cls) (hlen : (lg_sl av).length ≤ maxL) (hk : pc_w L k = some e0)
    (body : ∀ (p : Program) (e : Env) (s : State) (m : MethodId) (args : Array Value) (below : List Frame) (meth : Method) (c : Code), p.tables.exec = Jvm.exec → c.code = cb → c.maxLocals = maxL → s.vm.findClass (pt_cn o) = some m.cls → (∀ w ∈ pm_tb, w.before args s = true) → meth.sig.returnType = none → meth.locks = false → meth.name = "<init>" → pm_Kn ρ τ D sz aV s s.heap → sz ≤ s.heap.size →
      pm_K p l e rm s m args below meth c 0 0 (MQ below (pc_Qc ρ τ D sz N0 (pc_w L')) args s mc ms (fun q => sz ≤ q)) ρ τ D sz (0, pm_ent maxL av, [], pc_w L)) : pc_Met l ρ τ D sz aV y cb maxL rm mc ms N0 av L L' := by
  refine pm_ofW (cc := cb) (maxL := maxL) (ret := none) hy rfl ?_
  intro p e s m args below meth c s₁ B hml hP
  obtain ⟨rfl, hSim, hK⟩ := hP
  have hts0 := atoms_spec (ws := Cond.code y cb maxL none :: pm_tb) B.pre
  have hown : s.vm.findClass (pt_cn o) = some m.cls := by rw [hcls]; exact findClass_of_methodNamed B.named
  have hin : meth.name = "<init>" := (name_of_methodNamed B.named B.method).1.trans hyn
  have hsz : sz ≤ s.heap.size := Nat.le_of_lt (Nat.lt_of_le_of_lt (hSim.1 k e0 hk).2 (hSim.1 k e0 hk).1.lt)
  rw [lg_entry_eq]
  exact body p e s m _ below meth c B.exec B.bytes hml hown (fun w hw => hts0 w (List.mem_cons_of_mem _ hw)) B.returns B.notSynchronized hin hK hsz s.heap [] _ hSim va_S.rf (pm_ent_lh ρ av hlen)
theorem pc_fin {ρ0 : Nat → Nat} {N0 mc ms : Nat} (hx : p.tables.exec = Jvm.exec) (hb : c.code = cc) (hr : meth.sig.returnType = none) (hlocks : meth.locks = false) (hA : pc_ag N0 ρ0 ρ) (hc : cells = mc) (hs : slots = ms) (hd : decode cc pc = .ok (.return_, 1)) : pm_K p l e R s m args below meth c cells slots (MQ below (pc_Qc ρ0 τ D sz N0 (pc_w L)) args s mc ms (fun q => sz ≤ q)) ρ τ D sz (pc, pl, [], pc_w L) := by
  intro H locs ls hSim hS hl
  subst hc
  subst hs
  exact W.vret hx hb hr (fun t ht _ => ⟨⟨rfl, ρ, hA, by rw [ht]; exact hSim⟩, hS.F ht⟩) hS.2.2 hd hlocks
theorem pc_call {own : String} {y : MethodName} {cb : ByteArray} {ix maxL mc ms N0 n a : Nat} {rm : Room} {as rest : List Value} (hx : p.tables.exec = Jvm.exec) (hb : c.code = cc) (hml : c.maxLocals = pl.length) (hown : s.vm.findClass own = some m.cls) (hts : ∀ w ∈ pm_tb, w.before args s = true) (hK : pm_Kn ρ τ D sz aV s s.heap) (hM : pc_Met l ρ τ D sz aV y cb maxL rm mc ms N0 (.ref a :: as) L L')
    (q0 : Cond.code y cb maxL none ∈ pm_tb) (q1 : Cond.methodLink own ix y ∈ pm_tb) (q2 : Cond.initialized y.cls ∈ pm_tb) (q3 : Cond.instanceMethod y ∈ pm_tb) (hyn : y.name = "<init>") (hds : y.cls ≠ "java/lang/invoke/MethodHandle" ∧ y.cls ≠ "java/lang/invoke/VarHandle" ∧ (parseMethodDescriptor y.desc).map (fun d => d.parameters.length) = some n) (hn : as.length = n)
    (hrm : rm.cells = mc ∧ rm.slots = ms) (hR : rm.frames + 1 ≤ R.frames ∧ 8 + (maxL + 11) + rm.locals ≤ R.locals) (hc : cells + mc ≤ R.cells ∧ slots + ms ≤ R.slots) (hpl : pc_lr N0 pl = true) (hrest : rest.all (pc_vr N0) = true) (hsum : (rest.map fun v => v.category).sum ≤ 8) (hst : st = as.reverse ++ .ref a :: rest) (hd : decode cc pc = .ok (.invokespecial ix, 3))
    (kk : ∀ ρ1, pc_ag N0 ρ ρ1 → pm_K p l e R s m args below meth c (cells + mc) (slots + ms) Q ρ1 τ D sz (pc + 3, pl, rest, pc_w L')) : pm_K p l e R s m args below meth c cells slots Q ρ τ D sz (pc, pl, st, pc_w L) := by
  intro H locs ls hSim hS hl
  have hst' : st.map (pm_rn ρ) = (as.map (pm_rn ρ)).reverse ++ .ref (ρ a) :: rest.map (pm_rn ρ) := by rw [hst, List.map_append, List.map_reverse]; rfl
  have hG : GoodIn pm_tb (Cond.code y cb maxL none :: pm_tb) := by
    intro w hw
    have h2 : w ∈ pm_tb := by
      rcases List.mem_cons.mp hw with e | e
      · rw [e]; exact q0
      · exact e
    exact ⟨h2, good_of_word (List.mem_filter.mp h2).2⟩
  have hr := va_runI (p := p) (l := l) (e := e) (R := R) (s := s) (m := m) (args := args) (below := below) (meth := meth) (c := c) (H := H) (locs := locs) (cells := cells) (slots := slots) (As := as.map (pm_rn ρ)) (b := ρ a) (rest := rest.map (pm_rn ρ)) (nL := ls.size) (g := F0 m pc ls (st.map (pm_rn ρ))) ⟨hx, hb, hml.trans hl.1.symm, hown, hts⟩ hM (cwI n hts hG rfl hrm.1 hrm.2 (hts _ q2) (hts _ q1) (hts _ q3) hyn hds hR) ⟨pm_blind, pm_pre (av := .ref a :: as) hK hSim hS⟩ rfl (by rw [List.length_map]; exact hn) rfl hst' (lv_room (by rw [pm_sum]; exact hsum)) hd hc
  intro T hT X
  obtain ⟨v, st₀, t, T', L9, h0, X', hL, e1, e2, ⟨⟨hv, ρ1, hA, hsim⟩, hz, hk⟩, stp⟩ := hr T hT X
  cases hv
  rw [h0] at hz hk
  obtain ⟨t2, a1, b1⟩ := kk ρ1 hA T'.heap (locs ++ L9) ls (by rw [e1]; exact hsim) ⟨Nat.le_trans hS.1 (by rw [e1]; exact hz), fun q h1 h2 => by rw [e1, hk q (Nat.lt_of_lt_of_le h1 hS.1) h2]; exact hS.2.1 q h1 h2, fun q hq => by
      rcases List.mem_append.mp hq with h | h
      · exact hS.2.2 q h
      · exact hL q h⟩ (hA.lh hpl hl) T' rfl X'
  refine ⟨t2, stp t2 ?_, b1⟩
  dsimp only at a1
  rw [hA.st hrest] at a1
  exact a1
end PCR
