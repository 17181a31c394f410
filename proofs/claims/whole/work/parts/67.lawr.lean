/-! RULES OF THE LAW'S BODY; the invariant at the start -/
theorem pl_typ {rt : Option FieldType} : ∀ (n M : Nat) (cf : pm_C) (r : Option Value) (w' : pm_H), pt_r M = rt → pm_run n M cf = some (r, w') → (rt = some .int → ∃ x, r = some (.int x)) ∧ (rt = some .long → ∃ x, r = some (.long x)) := by
  intro n
  induction n with
  | zero => intro M cf r w' _ h; cases h
  | succ n ih =>
    intro M cf r w' hrt h
    obtain ⟨pc, pl, st, w⟩ := cf
    unfold pm_run at h
    split at h
    · cases h
    · split at h
      · rename_i i len _ r0 hf
        cases h
        rw [hrt] at hf
        unfold pm_fin at hf
        split at hf
        · split at hf
          · cases hf; exact ⟨fun _ => ⟨_, rfl⟩, fun e => by cases e⟩
          · cases hf
        · exact ⟨fun e => (by cases e), fun e => (by cases e)⟩
        · split at hf
          · cases hf; exact ⟨fun e => (by cases e), fun _ => ⟨_, rfl⟩⟩
          · cases hf
        · exact ⟨fun e => (by cases e), fun e => (by cases e)⟩
        · cases hf
      · split at h
        · split at h
          · split at h
            · split at h
              · exact ih _ _ _ _ hrt h
              · cases h
            · cases h
          · split at h
            · split at h
              · exact ih _ _ _ _ hrt h
              · cases h
            · cases h
        · split at h
          · exact ih _ _ _ _ hrt h
          · cases h
theorem pl_int {M : Nat} {av : List Value} {w w' : pm_H} {r : Option Value} (hrt : pt_r M = some .int) (h : pm_call M av w = some (r, w')) : ∃ x, r = some (.int x) := by
  obtain ⟨n, hn⟩ := pm_evc_iff.mp (show pm_evc M (0, pm_ent (pt_l M) av, [], w) = some (r, w') from h)
  exact (pl_typ n M _ r w' hrt hn).1 rfl
theorem pl_long {M : Nat} {av : List Value} {w w' : pm_H} {r : Option Value} (hrt : pt_r M = some .long) (h : pm_call M av w = some (r, w')) : ∃ x, r = some (.long x) := by
  obtain ⟨n, hn⟩ := pm_evc_iff.mp (show pm_evc M (0, pm_ent (pt_l M) av, [], w) = some (r, w') from h)
  exact (pl_typ n M _ r w' hrt hn).2 rfl
theorem pl_and (x : Int32) : ∃ v, v < 32 ∧ (x &&& 31) = nI v := by
  have h : (x &&& 31).toBitVec.toNat ≤ 31 := by
    show (x.toBitVec &&& (31 : Int32).toBitVec).toNat ≤ 31
    rw [BitVec.toNat_and]
    exact Nat.le_trans Nat.and_le_right (by decide)
  refine ⟨(x &&& 31).toBitVec.toNat, by omega, ?_⟩
  apply Int32.toBitVec_inj.mp
  show _ = BitVec.ofNat 32 (x &&& 31).toBitVec.toNat
  rw [BitVec.ofNat_toNat, BitVec.setWidth_eq]
theorem pl_cmp (x : Int64) : lg_cmp x x = 0 := by
  unfold lg_cmp
  simp
theorem IV.c0 {w : pm_H} (I : IV w) : ∃ fs, w 0 = some (.inr (5, fs)) := by
  obtain ⟨y, z, fk, B, t, h, K, Q, F, Y, n, N, TT, R, SN, c, hd, -⟩ := I
  exact ⟨_, hd.2.1⟩
theorem pl_I0 : IV (pc_w pL89) := by
  refine ⟨80, 100, 0, fun _ => 0, 0, 0, fun _ => 0, fun _ => 0, fun _ => 0, ab_rst (fun _ _ => 0), 0, 0, fun _ => 0, ab_c0 (fun _ => 0), fun _ => 0, fun _ => 0, ?_, ?_, by omega, fun j hj => absurd hj (Nat.not_lt_zero _), fun j hj => absurd hj (Nat.not_lt_zero _), by omega, ab_rst_wf, ab_c0_le, trivial, fun _ => 0, rfl⟩
  · refine ⟨Or.inl ⟨rfl, rfl⟩, rfl, twe rfl rfl, ⟨0, 0, 0, 0, 0, 0, rfl⟩, ⟨fun _ => 0, 0, 0, 0, fun _ => 0, fun _ => 0, fun _ => 0, fun _ => 0, 0, 0, 0, 0, ?_⟩, hwe rfl rfl rfl rfl, ⟨rfl, rfl, rfl, rfl, rfl, rfl, rfl, rfl, rfl, rfl⟩, ab_rst (fun _ _ => 0), ⟨rfl, rfl, rfl, rfl, rfl, rfl, rfl, rfl, rfl, rfl⟩⟩
    funext k
    by_cases hk : k < 40 ∨ 48 < k
    · exact dwo hk
    · rcases (show k = 40 ∨ k = 41 ∨ k = 42 ∨ k = 43 ∨ k = 44 ∨ k = 45 ∨ k = 46 ∨ k = 47 ∨ k = 48 by omega) with rfl | rfl | rfl | rfl | rfl | rfl | rfl | rfl | rfl <;> rfl
  · refine ⟨0, 0, 0, 0, 0, 0, 0, 0, 0, 0, 0, 0, 0, fun _ => 0, fun _ => 0, fun _ => 0, fun _ => 0, ?_⟩
    funext k
    by_cases hk : k < 200 ∨ 218 < k
    · exact mwo hk
    · rcases (show k = 200 ∨ k = 201 ∨ k = 202 ∨ k = 203 ∨ k = 204 ∨ k = 205 ∨ k = 206 ∨ k = 207 ∨ k = 208 ∨ k = 209 ∨ k = 210 ∨ k = 211 ∨ k = 212 ∨ k = 213 ∨ k = 214 ∨ k = 215 ∨ k = 216 ∨ k = 217 ∨ k = 218 by omega) with rfl | rfl | rfl | rfl | rfl | rfl | rfl | rfl | rfl | rfl | rfl | rfl | rfl | rfl | rfl | rfl | rfl | rfl | rfl <;> rfl
section PLR
variable {p : Program} {l : Launch} {e : Env} {R : Room} {s : State} {m : MethodId} {args : Array Value} {below : List Frame} {meth : Method} {c : Code} {cells slots : Nat} {Q : State → Prop}
variable {ρ : Nat → Nat} {τ : Nat → ClassId} {D : va_G} {sz : Nat} {aV : Nat → Nat} {cc : ByteArray} {pc : Nat} {pl pl' : pm_L} {st : List Value} {w w' : pm_H}
theorem pl_forget (h : pl'.length = pl.length) (hq : ∀ (i : Nat) (v : Value), pl'[i]? = some (some v) → pl[i]? = some (some v)) (k : pm_K p l e R s m args below meth c cells slots Q ρ τ D sz (pc, pl', st, w)) : pm_K p l e R s m args below meth c cells slots Q ρ τ D sz (pc, pl, st, w) :=
  fun H locs ls h1 h2 h3 => k H locs ls h1 h2 ⟨h3.1.trans h.symm, h3.2.1, fun i v hi => h3.2.2 i v (hq i v hi)⟩
theorem pl_sld {b L : Nat} {xs : Nat → Int32} {i : Int32} (hx : p.tables.exec = Jvm.exec) (hb : c.code = cc) (hX : va_X b L xs s s.heap) (hbl : b < s.heap.size) (hsz : b < sz) (hρ : ρ 900 = b) (hin : vp_in i L) (hd : decode cc pc = .ok (.iaload, 1))
    (k : pm_K p l e R s m args below meth c cells slots Q ρ τ D sz (pc + 1, pl, .int (xs i.toNatClampNeg) :: st, w)) : pm_K p l e R s m args below meth c cells slots Q ρ τ D sz (pc, pl, .int i :: .ref 900 :: st, w) := by
  intro H locs ls h1 h2 h3
  show W p l e R s m args below meth c H locs cells slots Q (F0 m pc ls (.int i :: .ref (ρ 900) :: st.map (pm_rn ρ)))
  rw [hρ]
  exact va_sld hx hb hX hbl (Nat.not_le.mpr hsz) h2 hin hd (k H locs ls h1 h2 h3)
theorem pl_len {b L : Nat} {xs : Nat → Int32} (hx : p.tables.exec = Jvm.exec) (hb : c.code = cc) (hX : va_X b L xs s s.heap) (hbl : b < s.heap.size) (hsz : b < sz) (hρ : ρ 900 = b) (hd : decode cc pc = .ok (.arraylength, 1))
    (k : pm_K p l e R s m args below meth c cells slots Q ρ τ D sz (pc + 1, pl, .int (Int32.ofNat L) :: st, w)) : pm_K p l e R s m args below meth c cells slots Q ρ τ D sz (pc, pl, .ref 900 :: st, w) := by
  intro H locs ls h1 h2 h3
  show W p l e R s m args below meth c H locs cells slots Q (F0 m pc ls (.ref (ρ 900) :: st.map (pm_rn ρ)))
  rw [hρ]
  exact va_slen hx hb hX hbl (Nat.not_le.mpr hsz) h2 hd (k H locs ls h1 h2 h3)
/-- an argument out of the script -/
theorem pl_arg {b L : Nat} {xs : Nat → Int32} {i : Int32} {kv : Int} (hx : p.tables.exec = Jvm.exec) (hb : c.code = cc) (hX : va_X b L xs s s.heap) (hbl : b < s.heap.size) (hsz : b < sz) (hρ : ρ 900 = b) (hin : vp_in (i + Int32.ofInt kv) L) {a1 a2 a3 : Option Value} {tl : pm_L} (hpl : pl = some (.ref 900) :: a1 :: a2 :: a3 :: some (.int i) :: tl)
    (d0 : decode cc pc = .ok (.aload_n 0, 1)) (d1 : decode cc (pc + 1) = .ok (.iload 4, 2)) (d2 : decode cc (pc + 3) = .ok (.iconst kv, 1)) (d3 : decode cc (pc + 4) = .ok (.iadd, 1)) (d4 : decode cc (pc + 5) = .ok (.iaload, 1))
    (k : pm_K p l e R s m args below meth c cells slots Q ρ τ D sz (pc + 6, pl, .int (xs (i + Int32.ofInt kv).toNatClampNeg) :: st, w)) : pm_K p l e R s m args below meth c cells slots Q ρ τ D sz (pc, pl, st, w) := by
  refine pm_sB_ok (cf := (pc + 1, pl, .ref 900 :: st, w)) hx hb d0 (by rw [hpl]; rfl) ?_
  refine pm_sB_ok (cf := (pc + 3, pl, .int i :: .ref 900 :: st, w)) hx hb d1 (by rw [hpl]; rfl) ?_
  refine pm_sA_ok (cf := (pc + 4, pl, .int (Int32.ofInt kv) :: .int i :: .ref 900 :: st, w)) hx hb d2 rfl ?_
  refine pm_sD_ok (cf := (pc + 5, pl, .int (i + Int32.ofInt kv) :: .ref 900 :: st, w)) hx hb d3 rfl ?_
  exact pl_sld hx hb hX hbl hsz hρ hin d4 k
/-- a method of the law's own, with its handler -/
theorem pl_help {y : MethodName} {cb : ByteArray} {maxL ix n : Nat} {hh : List (Nat × Nat × Nat × Nat)} {av rest : List Value} {r : Int32} (hx : p.tables.exec = Jvm.exec) (hb : c.code = cc) (hml : c.maxLocals = pl.length) (hown : s.vm.findClass RL = some m.cls) (hts : ∀ w ∈ pm_tb, w.before args s = true) (hK : pm_Kn ρ τ D sz aV s s.heap) (hM : ph_Met l ρ τ D sz aV y cb maxL hh av w r w')
    (q0 : Cond.codeWith y cb maxL (some .int) hh ∈ pm_tb) (q1 : Cond.methodLink RL ix y ∈ pm_tb) (q2 : Cond.static y ∈ pm_tb) (q3 : Cond.initialized y.cls ∈ pm_tb) (hds : y.cls ≠ "java/lang/invoke/MethodHandle" ∧ y.cls ≠ "java/lang/invoke/VarHandle" ∧ (parseMethodDescriptor y.desc).map (fun d => d.parameters.length) = some n) (hn : av.length = n)
    (hR : 9 ≤ R.frames ∧ 8 + (maxL + 11) + 200 ≤ R.locals) (hc : cells + 1 ≤ R.cells ∧ slots + 6 ≤ R.slots) (hsum : (rest.map fun v => v.category).sum ≤ 8) (hst : st = av.reverse ++ rest) (hd : decode cc pc = .ok (.invokestatic ix, 3))
    (kk : pm_K p l e R s m args below meth c (cells + 1) (slots + 6) Q ρ τ D sz (pc + 3, pl, .int r :: rest, w')) : pm_K p l e R s m args below meth c cells slots Q ρ τ D sz (pc, pl, st, w) := by
  intro H locs ls hSim hS hl
  have hst' : st.map (pm_rn ρ) = (av.map (pm_rn ρ)).reverse ++ rest.map (pm_rn ρ) := by rw [hst, List.map_append, List.map_reverse]
  have hG : GoodIn pm_tb (va_wsS RL ix y (ph_ws y cb maxL hh)) := by
    intro w hw
    have h2 : w ∈ pm_tb := by
      rcases List.mem_append.mp hw with h | h
      · simp only [List.mem_cons, List.not_mem_nil, or_false] at h
        rcases h with e | e | e <;> rw [e] <;> assumption
      · rcases List.mem_cons.mp h with e | e
        · rw [e]; exact q0
        · exact e
    exact ⟨h2, good_of_word (List.mem_filter.mp h2).2⟩
  have hr := vx_runSX (p := p) (l := l) (e := e) (R := R) (s := s) (m := m) (args := args) (below := below) (meth := meth) (c := c) (H := H) (locs := locs) (cells := cells) (slots := slots) (As := av.map (pm_rn ρ)) (rest := rest.map (pm_rn ρ)) (nL := ls.size) (g := F0 m pc ls (st.map (pm_rn ρ))) ⟨hx, hb, hml.trans hl.1.symm, hown, hts⟩ hM (vx_cwSW n hts hG rfl rfl rfl hds hR) ⟨pm_blind, pm_pre (av := av) hK hSim hS⟩ rfl (by rw [List.length_map]; exact hn) rfl hst' (lv_room (by rw [pm_sum]; exact hsum)) hd hc
  intro T hT X
  rcases hr T hT X with ⟨v, st₀, t, T', L9, h0, X', hL, e1, e2, ⟨⟨hv, hsim⟩, hz, hk⟩, stp⟩ | ⟨q, st₀, t, T', L, E, ce, h0, X', hL, e1, e2, hF, -⟩
  · cases hv
    rw [h0] at hz hk
    obtain ⟨t2, a1, b1⟩ := kk T'.heap (locs ++ L9) ls (by rw [e1]; exact hsim) ⟨Nat.le_trans hS.1 (by rw [e1]; exact hz), fun q h1 h2 => by rw [e1, hk q (Nat.lt_of_lt_of_le h1 hS.1) h2]; exact hS.2.1 q h1 h2, fun q hq => by
        rcases List.mem_append.mp hq with h | h
        · exact hS.2.2 q h
        · exact hL q h⟩ hl T' rfl X'
    exact ⟨t2, stp t2 a1, b1⟩
  · exact hF.elim
end PLR
