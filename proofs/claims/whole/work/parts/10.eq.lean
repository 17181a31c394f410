/-! STEP EQUATIONS, once for each kind of instruction -/
section PEQ
variable {M pc len : Nat} {y : MethodName} {b : ByteArray} {ml : Nat} {r : Option FieldType} {o f wd n : Nat} {i : Instr} {pl : pm_L} {st : List Value} {w : pm_H} {cf : pm_C}
noncomputable def pm_kl_ (M pc : Nat) (x : Option pm_L) (st : List Value) (w : pm_H) : Option (Option Value × pm_H) := match x with
  | some pl => pm_ev M pc pl st w
  | none => none
theorem pm_kl_some {pl : pm_L} : pm_kl_ M pc (some pl) st w = pm_ev M pc pl st w := rfl
theorem pm_nx (ht : pt_at M = (y, b, ml, r, o, f, wd, n)) (hd : decode b pc = .ok (i, len)) (hf : pm_fin r i len st = none) (hc : pm_cl o i len st = none) (hs : pm_s (pt_F o) (pt_K o) i len pc pl st w = some cf) : pm_ev M pc pl st w = pm_ev M cf.1 cf.2.1 cf.2.2.1 cf.2.2.2 := by
  refine pm_ev_next (i := i) (len := len) ?_ ?_ ?_ ?_
  · show decode (pt_at M).2.1 pc = _; rw [ht]; exact hd
  · show pm_fin (pt_at M).2.2.2.1 i len st = none; rw [ht]; exact hf
  · show pm_cl (pt_at M).2.2.2.2.1 i len st = none; rw [ht]; exact hc
  · show pm_s (pt_F (pt_at M).2.2.2.2.1) (pt_K (pt_at M).2.2.2.2.1) i len pc pl st w = some cf; rw [ht]; exact hs
theorem pm_n0 (ht : pt_at M = (y, b, ml, r, o, f, wd, n)) (hd : decode b pc = .ok (i, len)) (hf : pm_fin r i len st = none) (hc : pm_cl o i len st = none) (hs : pm_s (pt_F o) (pt_K o) i len pc pl st w = none) : pm_ev M pc pl st w = none := by
  refine pm_ev_none (i := i) (len := len) ?_ ?_ ?_ ?_
  · show decode (pt_at M).2.1 pc = _; rw [ht]; exact hd
  · show pm_fin (pt_at M).2.2.2.1 i len st = none; rw [ht]; exact hf
  · show pm_cl (pt_at M).2.2.2.2.1 i len st = none; rw [ht]; exact hc
  · show pm_s (pt_F (pt_at M).2.2.2.2.1) (pt_K (pt_at M).2.2.2.2.1) i len pc pl st w = none; rw [ht]; exact hs
theorem pm_ny {pc' : Nat} {pl' : pm_L} {st' : List Value} {w' : pm_H} (ht : pt_at M = (y, b, ml, r, o, f, wd, n)) (hd : decode b pc = .ok (i, len)) (hf : pm_fin r i len st = none) (hc : pm_cl o i len st = none) (hs : pm_s (pt_F o) (pt_K o) i len pc pl st w = some (pc', pl', st', w')) : pm_ev M pc pl st w = pm_ev M pc' pl' st' w' := pm_nx ht hd hf hc hs
/-- an if of configurations -/
theorem pm_ni {c : Prop} {dc : Decidable c} {u v : pm_C} (h : pm_ev M pc pl st w = pm_ev M (@ite _ c dc u v).1 (@ite _ c dc u v).2.1 (@ite _ c dc u v).2.2.1 (@ite _ c dc u v).2.2.2) : pm_ev M pc pl st w = @ite _ c dc (pm_ev M u.1 u.2.1 u.2.2.1 u.2.2.2) (pm_ev M v.1 v.2.1 v.2.2.1 v.2.2.2) := by
  rw [h]
  by_cases hc : c
  · rw [if_pos hc, if_pos hc]
  · rw [if_neg hc, if_neg hc]
theorem pm_not {α : Type} {c d : Prop} {dc : Decidable c} {dd : Decidable d} {A B : α} (h : c ↔ ¬ d) : @ite _ c dc A B = @ite _ d dd B A := by
  by_cases hd : d
  · rw [if_pos hd, if_neg (fun hc => h.mp hc hd)]
  · rw [if_neg hd, if_pos (h.mpr hd)]
theorem pm_nif {c : Prop} {dc : Decidable c} {p1 p2 : Nat} {pl' : pm_L} {st' : List Value} {w' : pm_H} (ht : pt_at M = (y, b, ml, r, o, f, wd, n)) (hd : decode b pc = .ok (i, len)) (hf : pm_fin r i len st = none) (hc : pm_cl o i len st = none) (hs : pm_s (pt_F o) (pt_K o) i len pc pl st w = some (@ite _ c dc (p1, pl', st', w') (p2, pl', st', w'))) : pm_ev M pc pl st w = @ite _ c dc (pm_ev M p1 pl' st' w') (pm_ev M p2 pl' st' w') := pm_ni (pm_nx ht hd hf hc hs)
theorem pm_nin {c d : Prop} {dc : Decidable c} {dd : Decidable d} {p1 p2 : Nat} {pl' : pm_L} {st' : List Value} {w' : pm_H} (ht : pt_at M = (y, b, ml, r, o, f, wd, n)) (hd : decode b pc = .ok (i, len)) (hf : pm_fin r i len st = none) (hc : pm_cl o i len st = none) (hs : pm_s (pt_F o) (pt_K o) i len pc pl st w = some (@ite _ c dc (p1, pl', st', w') (p2, pl', st', w'))) (h : c ↔ ¬ d) : pm_ev M pc pl st w = @ite _ d dd (pm_ev M p2 pl' st' w') (pm_ev M p1 pl' st' w') := (pm_nif ht hd hf hc hs).trans (pm_not h)
theorem pm_ge {x y : Int32} : y ≤ x ↔ ¬ x < y := Int32.not_lt.symm
theorem pm_ng {a ix ci k t : Nat} {fin : Bool} (ht : pt_at M = (y, b, ml, r, o, f, wd, n)) (hF : pt_F o ix = some (ci, k, t, fin)) (hd : decode b pc = .ok (.getfield ix, 3)) : pm_ev M pc pl (.ref a :: st) w = pm_kv M (pc + 3) pl st w (pm_gf (w a) ci k) := by
  have hs : pm_s (pt_F o) (pt_K o) (.getfield ix) 3 pc pl (.ref a :: st) w = (match pm_gf (w a) ci k with
      | some v => some (pc + 3, pl, v :: st, w)
      | none => none) := by
    show (if 3 = 3 then (match pt_F o ix with
    | some (ci, k, _, _) => (match pm_gf (w a) ci k with
      | some v => some (pc + 3, pl, v :: st, w)
      | none => none)
    | none => none) else none) = _
    rw [if_pos rfl, hF]
  cases hg : pm_gf (w a) ci k with
  | none => rw [hg] at hs; exact pm_n0 ht hd rfl rfl hs
  | some v => rw [hg] at hs; exact pm_nx ht hd rfl rfl hs
theorem pm_np {a ix ci k t : Nat} {v : Value} (ht : pt_at M = (y, b, ml, r, o, f, wd, n)) (hF : pt_F o ix = some (ci, k, t, false)) (hd : decode b pc = .ok (.putfield ix, 3)) : pm_ev M pc pl (v :: .ref a :: st) w = pm_kw M (pc + 3) pl st (pm_pf w a (w a) ci k t v) := by
  have hs : pm_s (pt_F o) (pt_K o) (.putfield ix) 3 pc pl (v :: .ref a :: st) w = (match pm_pf w a (w a) ci k t v with
      | some w' => some (pc + 3, pl, st, w')
      | none => none) := by
    show (if 3 = 3 then (match pt_F o ix with
    | some (ci, k, t, false) => (match pm_pf w a (w a) ci k t v with
      | some w' => some (pc + 3, pl, st, w')
      | none => none)
    | _ => none) else none) = _
    rw [if_pos rfl, hF]
  cases hg : pm_pf w a (w a) ci k t v with
  | none => rw [hg] at hs; exact pm_n0 ht hd rfl rfl hs
  | some v => rw [hg] at hs; exact pm_nx ht hd rfl rfl hs
theorem pm_nia {a : Nat} {j : Int32} (ht : pt_at M = (y, b, ml, r, o, f, wd, n)) (hd : decode b pc = .ok (.iaload, 1)) : pm_ev M pc pl (.int j :: .ref a :: st) w = pm_kv M (pc + 1) pl st w (pm_ia (w a) 0 j) := by
  have hs : pm_s (pt_F o) (pt_K o) .iaload 1 pc pl (.int j :: .ref a :: st) w = (match pm_ia (w a) 0 j with
      | some v => some (pc + 1, pl, v :: st, w)
      | none => none) := rfl
  cases hg : pm_ia (w a) 0 j with
  | none => rw [hg] at hs; exact pm_n0 ht hd rfl rfl hs
  | some v => rw [hg] at hs; exact pm_nx ht hd rfl rfl hs
theorem pm_nba {a : Nat} {j : Int32} (ht : pt_at M = (y, b, ml, r, o, f, wd, n)) (hd : decode b pc = .ok (.baload, 1)) : pm_ev M pc pl (.int j :: .ref a :: st) w = pm_kv M (pc + 1) pl st w (pm_ia (w a) 2 j) := by
  have hs : pm_s (pt_F o) (pt_K o) .baload 1 pc pl (.int j :: .ref a :: st) w = (match pm_ia (w a) 2 j with
      | some v => some (pc + 1, pl, v :: st, w)
      | none => none) := rfl
  cases hg : pm_ia (w a) 2 j with
  | none => rw [hg] at hs; exact pm_n0 ht hd rfl rfl hs
  | some v => rw [hg] at hs; exact pm_nx ht hd rfl rfl hs
theorem pm_nla {a : Nat} {j : Int32} (ht : pt_at M = (y, b, ml, r, o, f, wd, n)) (hd : decode b pc = .ok (.laload, 1)) : pm_ev M pc pl (.int j :: .ref a :: st) w = pm_kv M (pc + 1) pl st w (pm_la (w a) j) := by
  have hs : pm_s (pt_F o) (pt_K o) .laload 1 pc pl (.int j :: .ref a :: st) w = (match pm_la (w a) j with
      | some v => some (pc + 1, pl, v :: st, w)
      | none => none) := rfl
  cases hg : pm_la (w a) j with
  | none => rw [hg] at hs; exact pm_n0 ht hd rfl rfl hs
  | some v => rw [hg] at hs; exact pm_nx ht hd rfl rfl hs
theorem pm_nis {a : Nat} {j x : Int32} (ht : pt_at M = (y, b, ml, r, o, f, wd, n)) (hd : decode b pc = .ok (.iastore, 1)) : pm_ev M pc pl (.int x :: .int j :: .ref a :: st) w = pm_kw M (pc + 1) pl st (pm_is w a (w a) j x) := by
  have hs : pm_s (pt_F o) (pt_K o) .iastore 1 pc pl (.int x :: .int j :: .ref a :: st) w = (match pm_is w a (w a) j x with
      | some w' => some (pc + 1, pl, st, w')
      | none => none) := rfl
  cases hg : pm_is w a (w a) j x with
  | none => rw [hg] at hs; exact pm_n0 ht hd rfl rfl hs
  | some v => rw [hg] at hs; exact pm_nx ht hd rfl rfl hs
theorem pm_nbs {a : Nat} {j x : Int32} (ht : pt_at M = (y, b, ml, r, o, f, wd, n)) (hd : decode b pc = .ok (.bastore, 1)) : pm_ev M pc pl (.int x :: .int j :: .ref a :: st) w = pm_kw M (pc + 1) pl st (pm_bs w a (w a) j x) := by
  have hs : pm_s (pt_F o) (pt_K o) .bastore 1 pc pl (.int x :: .int j :: .ref a :: st) w = (match pm_bs w a (w a) j x with
      | some w' => some (pc + 1, pl, st, w')
      | none => none) := rfl
  cases hg : pm_bs w a (w a) j x with
  | none => rw [hg] at hs; exact pm_n0 ht hd rfl rfl hs
  | some v => rw [hg] at hs; exact pm_nx ht hd rfl rfl hs
theorem pm_nls {a : Nat} {j : Int32} {x : Int64} (ht : pt_at M = (y, b, ml, r, o, f, wd, n)) (hd : decode b pc = .ok (.lastore, 1)) : pm_ev M pc pl (.long x :: .int j :: .ref a :: st) w = pm_kw M (pc + 1) pl st (pm_ls w a (w a) j x) := by
  have hs : pm_s (pt_F o) (pt_K o) .lastore 1 pc pl (.long x :: .int j :: .ref a :: st) w = (match pm_ls w a (w a) j x with
      | some w' => some (pc + 1, pl, st, w')
      | none => none) := rfl
  cases hg : pm_ls w a (w a) j x with
  | none => rw [hg] at hs; exact pm_n0 ht hd rfl rfl hs
  | some v => rw [hg] at hs; exact pm_nx ht hd rfl rfl hs
/-- constants of the pool -/
theorem pm_nk {ix : Nat} {v : Value} (ht : pt_at M = (y, b, ml, r, o, f, wd, n)) (hK : pt_K o ix = some v) (hv : ¬ pm_vk v = 1) (hd : decode b pc = .ok (.ldc ix, 2)) : pm_ev M pc pl st w = pm_ev M (pc + 2) pl (v :: st) w := by
  refine pm_nx (cf := (pc + 2, pl, v :: st, w)) ht hd rfl rfl ?_
  show (if 2 = 2 then (match pt_K o ix with
    | some v => if pm_vk v = 1 then none else some (pc + 2, pl, v :: st, w)
    | none => none) else none) = _
  rw [if_pos rfl, hK]
  exact if_neg hv
theorem pm_nkw {ix : Nat} {v : Value} (ht : pt_at M = (y, b, ml, r, o, f, wd, n)) (hK : pt_K o ix = some v) (hv : pm_vk v = 0) (hd : decode b pc = .ok (.ldc_w ix, 3)) : pm_ev M pc pl st w = pm_ev M (pc + 3) pl (v :: st) w := by
  refine pm_nx (cf := (pc + 3, pl, v :: st, w)) ht hd rfl rfl ?_
  show (if 3 = 3 then (match pt_K o ix with
    | some v => if pm_vk v = 0 then some (pc + 3, pl, v :: st, w) else none
    | none => none) else none) = _
  rw [if_pos rfl, hK]
  exact if_pos hv
theorem pm_nk2 {ix : Nat} {v : Value} (ht : pt_at M = (y, b, ml, r, o, f, wd, n)) (hK : pt_K o ix = some v) (hv : pm_vk v = 1) (hd : decode b pc = .ok (.ldc2_w ix, 3)) : pm_ev M pc pl st w = pm_ev M (pc + 3) pl (v :: st) w := by
  refine pm_nx (cf := (pc + 3, pl, v :: st, w)) ht hd rfl rfl ?_
  show (if 3 = 3 then (match pt_K o ix with
    | some v => if pm_vk v = 1 then some (pc + 3, pl, v :: st, w) else none
    | none => none) else none) = _
  rw [if_pos rfl, hK]
  exact if_pos hv
def pm_dv (x y : Int64) : Option Value := if y = 0 then none else some (.long (x / y))
theorem pm_nd {x z : Int64} (ht : pt_at M = (y, b, ml, r, o, f, wd, n)) (hd : decode b pc = .ok (.ldiv, 1)) : pm_ev M pc pl (.long z :: .long x :: st) w = pm_kv M (pc + 1) pl st w (pm_dv x z) := by
  have hs : pm_s (pt_F o) (pt_K o) .ldiv 1 pc pl (.long z :: .long x :: st) w = (if z = 0 then none else some (pc + 1, pl, .long (x / z) :: st, w)) := by
    by_cases h : z = 0
    · show pm_or (if 1 = 1 then (if z = 0 then none else some (pc + 1, pl, .long (x / z) :: st, w)) else none) _ = _
      rw [if_pos rfl, if_pos h]
      rfl
    · show pm_or (if 1 = 1 then (if z = 0 then none else some (pc + 1, pl, .long (x / z) :: st, w)) else none) _ = _
      rw [if_pos rfl, if_neg h]
      rfl
  by_cases hz : z = 0
  · rw [if_pos hz] at hs
    rw [pm_n0 ht hd rfl rfl hs]
    unfold pm_dv
    rw [if_pos hz]
    rfl
  · rw [if_neg hz] at hs
    rw [pm_nx ht hd rfl rfl hs]
    unfold pm_dv
    rw [if_neg hz]
    rfl
/-- a store whose place ahead isn't known -/
theorem pm_nst {k t : Nat} {v : Value} (ht : pt_at M = (y, b, ml, r, o, f, wd, n)) (hd : decode b pc = .ok (i, len)) (hA : pm_kc i = none) (hB : pm_kl i = none) (hk : pm_ks i = some (len, k, t)) (hv : pm_vk v = t) (hf : pm_fin r i len (v :: st) = none) (hc : pm_cl o i len (v :: st) = none) (hn : ∀ w, pm_or (pm_sD i len pc pl (v :: st) w) (pm_or (pm_sE i len pc pl (v :: st) w) (pm_or (pm_sF i len pc pl (v :: st) w) (pm_or (pm_sG i len pc pl (v :: st) w) (pm_sH (pt_F o) (pt_K o) i len pc pl (v :: st) w)))) = none) : pm_ev M pc pl (v :: st) w = pm_kl_ M (pc + len) (pm_sto pl k v) st w := by
  have hs : pm_s (pt_F o) (pt_K o) i len pc pl (v :: st) w = (match pm_sto pl k v with
      | some pl' => some (pc + len, pl', st, w)
      | none => none) := by
    unfold pm_s pm_sA pm_sB pm_sC
    rw [hA, hB, hk, hn w]
    show pm_or (if len = len then (if pm_vk v = t then (match pm_sto pl k v with
      | some pl' => some (pc + len, pl', st, w)
      | none => none) else none) else none) none = _
    rw [if_pos rfl, if_pos hv]
    cases pm_sto pl k v <;> rfl
  cases hg : pm_sto pl k v with
  | none => rw [hg] at hs; exact pm_n0 ht hd hf hc hs
  | some v => rw [hg] at hs; exact pm_nx ht hd hf hc hs
/-- a virtual call -/
noncomputable def pm_vc (x : Option va_E) (ci : Nat) (z : Option (Option Value × pm_H)) : Option (Option Value × pm_H) := match x with
  | some (.inr (c, _)) => if c = ci then z else none
  | _ => none
theorem pm_vc_some {c : Nat} {fs : List Value} {z : Option (Option Value × pm_H)} : pm_vc (some (.inr (c, fs))) c z = z := if_pos rfl
theorem pm_nv {M' ix a : Nat} {as rest : List Value} {y' : MethodName} {b' : ByteArray} {ml' : Nat} {r' : Option FieldType} {o' f' wd' n' : Nat} (ht : pt_at M = (y, b, ml, r, o, f, wd, n)) (ht' : pt_at M' = (y', b', ml', r', o', f', wd', n')) (hM : pt_M o ix = some (0, M')) (hd : decode b pc = .ok (.invokevirtual ix, 3)) (hst : (st.take (n' + 1)).reverse = .ref a :: as ∧ st.drop (n' + 1) = rest) (hm : (pl.length = ml ∧ f' + 1 ≤ f ∧ 8 + (ml' + 11) + wd' ≤ wd ∧ (rest.map fun v => v.category).sum ≤ 8 ∧ (lg_sl (.ref a :: as)).length ≤ ml') ∧ as.length = n') : pm_ev M pc pl st w = pm_k M (pc + 3) pl rest (pm_vc (w a) o' (pm_call M' (.ref a :: as) w)) := by
  have hn' : pt_n M' = n' := by show (pt_at M').2.2.2.2.2.2.2 = n'; rw [ht']
  have ho' : pt_o M' = o' := by show (pt_at M').2.2.2.2.1 = o'; rw [ht']
  have hl' : pt_l M' = ml' := by show (pt_at M').2.2.1 = ml'; rw [ht']
  have hf' : pt_f M' = f' := by show (pt_at M').2.2.2.2.2.1 = f'; rw [ht']
  have hw' : pt_w M' = wd' := by show (pt_at M').2.2.2.2.2.2.1 = wd'; rw [ht']
  have hl0 : pt_l M = ml := by show (pt_at M).2.2.1 = ml; rw [ht]
  have hf0 : pt_f M = f := by show (pt_at M).2.2.2.2.2.1 = f; rw [ht]
  have hw0 : pt_w M = wd := by show (pt_at M).2.2.2.2.2.2.1 = wd; rw [ht]
  have hd' : decode (pt_b M) pc = .ok (.invokevirtual ix, 3) := by show decode (pt_at M).2.1 pc = _; rw [ht]; exact hd
  have hc : pm_cl (pt_o M) (.invokevirtual ix) 3 st = some (0, M', .ref a :: as, rest) := by
    have ho : pt_o M = o := by show (pt_at M).2.2.2.2.1 = o; rw [ht]
    rw [ho]
    show (if 3 = 3 then (match pt_M o ix with
      | some (0, M) => some (0, M, (st.take (pt_n M + 1)).reverse, st.drop (pt_n M + 1))
      | some (3, M) => some (3, M, (st.take 1).reverse, st.drop 1)
      | some (4, M) => some (4, M, (st.take 2).reverse, st.drop 2)
      | _ => none) else none) = _
    rw [if_pos rfl, hM]
    show some (0, M', (st.take (pt_n M' + 1)).reverse, st.drop (pt_n M' + 1)) = _
    rw [hn', hst.1, hst.2]
  have hmay : ∀ fs, w a = some (.inr (o', fs)) → pm_may M 0 M' (.ref a :: as) rest w pl.length = true := by
    intro fs hwa
    unfold pm_may
    rw [hl0, hf', hf0, hl', hw', hw0, Bool.and_eq_true, decide_eq_true_eq]
    refine ⟨hm.1, ?_⟩
    show (decide (as.length = pt_n M') && (match w a with
    | some (.inr (ci, _)) => decide (ci = pt_o M')
    | _ => false)) = true
    rw [hwa, hn', ho', Bool.and_eq_true, decide_eq_true_eq]
    exact ⟨hm.2, decide_eq_true rfl⟩
  have hbad : pm_may M 0 M' (.ref a :: as) rest w pl.length ≠ true → pm_ev M pc pl st w = none := by
    intro hb
    cases h : pm_ev M pc pl st w with
    | none => rfl
    | some x =>
      obtain ⟨n, hn⟩ := pm_evc_iff.mp h
      cases n with
      | zero => cases hn
      | succ n =>
        rw [pm_run, hd'] at hn
        dsimp only at hn
        rw [show pm_fin (pt_r M) (.invokevirtual ix) 3 st = none from rfl] at hn
        dsimp only at hn
        rw [hc] at hn
        dsimp only at hn
        rw [if_neg (by decide), if_neg hb] at hn
        cases hn
  cases hwa : w a with
  | none =>
    show pm_ev M pc pl st w = none
    refine hbad (fun h => ?_)
    obtain ⟨b2, as2, fs2, e1, -, e2⟩ := pm_may0 h
    cases e1
    rw [hwa] at e2
    cases e2
  | some e =>
    cases e with
    | inl x =>
      show pm_ev M pc pl st w = none
      refine hbad (fun h => ?_)
      obtain ⟨b2, as2, fs2, e1, -, e2⟩ := pm_may0 h
      cases e1
      rw [hwa] at e2
      cases e2
    | inr x =>
      obtain ⟨ci, fs⟩ := x
      by_cases hci : ci = o'
      · subst hci
        rw [pm_vc_some]
        exact pm_ev_call hd' rfl hc (by decide) (hmay fs hwa)
      · have e3 : pm_vc (some (.inr (ci, fs))) o' (pm_call M' (.ref a :: as) w) = none := if_neg hci
        rw [e3]
        show pm_ev M pc pl st w = none
        refine hbad (fun h => ?_)
        obtain ⟨b2, as2, fs2, e1, -, e2⟩ := pm_may0 h
        cases e1
        rw [hwa, ho'] at e2
        cases e2
        exact hci rfl
/-- a static call -/
theorem pm_ns {M' ix kd : Nat} {as rest : List Value} {y' : MethodName} {b' : ByteArray} {ml' : Nat} {r' : Option FieldType} {o' f' wd' n' : Nat} (ht : pt_at M = (y, b, ml, r, o, f, wd, n)) (ht' : pt_at M' = (y', b', ml', r', o', f', wd', n')) (hM : pt_M o ix = some (kd, M')) (hkd : kd = 1 ∨ kd = 2) (hd : decode b pc = .ok (.invokestatic ix, 3)) (hst : (st.take n').reverse = as ∧ st.drop n' = rest) (hm : (pl.length = ml ∧ f' + 1 ≤ f ∧ 8 + (ml' + 11) + wd' ≤ wd ∧ (rest.map fun v => v.category).sum ≤ 8 ∧ (lg_sl as).length ≤ ml') ∧ as.length = n') : pm_ev M pc pl st w = pm_k M (pc + 3) pl rest (pm_call M' as w) := by
  have hn' : pt_n M' = n' := by show (pt_at M').2.2.2.2.2.2.2 = n'; rw [ht']
  have hl' : pt_l M' = ml' := by show (pt_at M').2.2.1 = ml'; rw [ht']
  have hf' : pt_f M' = f' := by show (pt_at M').2.2.2.2.2.1 = f'; rw [ht']
  have hw' : pt_w M' = wd' := by show (pt_at M').2.2.2.2.2.2.1 = wd'; rw [ht']
  have hl0 : pt_l M = ml := by show (pt_at M).2.2.1 = ml; rw [ht]
  have hf0 : pt_f M = f := by show (pt_at M).2.2.2.2.2.1 = f; rw [ht]
  have hw0 : pt_w M = wd := by show (pt_at M).2.2.2.2.2.2.1 = wd; rw [ht]
  have hd' : decode (pt_b M) pc = .ok (.invokestatic ix, 3) := by show decode (pt_at M).2.1 pc = _; rw [ht]; exact hd
  have ho : pt_o M = o := by show (pt_at M).2.2.2.2.1 = o; rw [ht]
  have hc : pm_cl (pt_o M) (.invokestatic ix) 3 st = some (kd, M', as, rest) := by
    rw [ho]
    show (if 3 = 3 then (match pt_M o ix with
      | some (1, M) => some (1, M, (st.take (pt_n M)).reverse, st.drop (pt_n M))
      | some (2, M) => some (2, M, (st.take (pt_n M)).reverse, st.drop (pt_n M))
      | _ => none) else none) = _
    rw [if_pos rfl, hM]
    rcases hkd with rfl | rfl
    · show some (1, M', (st.take (pt_n M')).reverse, st.drop (pt_n M')) = _
      rw [hn', hst.1, hst.2]
    · show some (2, M', (st.take (pt_n M')).reverse, st.drop (pt_n M')) = _
      rw [hn', hst.1, hst.2]
  have hmay : pm_may M kd M' as rest w pl.length = true := by
    unfold pm_may
    rw [hl0, hf', hf0, hl', hw', hw0, Bool.and_eq_true, decide_eq_true_eq]
    refine ⟨hm.1, ?_⟩
    rcases hkd with rfl | rfl
    · show decide (as.length = pt_n M') = true
      rw [hn']; exact decide_eq_true hm.2
    · show decide (as.length = pt_n M') = true
      rw [hn']; exact decide_eq_true hm.2
  exact pm_ev_call hd' rfl hc (by rcases hkd with rfl | rfl <;> decide) hmay
/-- length, charAt of a String constant -/
theorem pm_nsc {M' ix kd : Nat} {as rest : List Value} (ht : pt_at M = (y, b, ml, r, o, f, wd, n)) (hM : pt_M o ix = some (kd, M')) (hkd : kd = 3 ∨ kd = 4) (hd : decode b pc = .ok (.invokevirtual ix, 3)) (hst : (st.take (kd - 2)).reverse = as ∧ st.drop (kd - 2) = rest) (hm : pl.length = ml ∧ f ≥ 6 ∧ wd ≥ 150 ∧ (rest.map fun v => v.category).sum ≤ 8) : pm_ev M pc pl st w = pm_kv M (pc + 3) pl rest w (pm_sc kd as) := by
  have hl0 : pt_l M = ml := by show (pt_at M).2.2.1 = ml; rw [ht]
  have hf0 : pt_f M = f := by show (pt_at M).2.2.2.2.2.1 = f; rw [ht]
  have hw0 : pt_w M = wd := by show (pt_at M).2.2.2.2.2.2.1 = wd; rw [ht]
  have hd' : decode (pt_b M) pc = .ok (.invokevirtual ix, 3) := by show decode (pt_at M).2.1 pc = _; rw [ht]; exact hd
  have ho : pt_o M = o := by show (pt_at M).2.2.2.2.1 = o; rw [ht]
  have hc : pm_cl (pt_o M) (.invokevirtual ix) 3 st = some (kd, M', as, rest) := by
    rw [ho]
    show (if 3 = 3 then (match pt_M o ix with
      | some (0, M) => some (0, M, (st.take (pt_n M + 1)).reverse, st.drop (pt_n M + 1))
      | some (3, M) => some (3, M, (st.take 1).reverse, st.drop 1)
      | some (4, M) => some (4, M, (st.take 2).reverse, st.drop 2)
      | _ => none) else none) = _
    rw [if_pos rfl, hM]
    rcases hkd with rfl | rfl
    · show some (3, M', (st.take 1).reverse, st.drop 1) = _
      rw [← hst.1, ← hst.2]
    · show some (4, M', (st.take 2).reverse, st.drop 2) = _
      rw [← hst.1, ← hst.2]
  have hm' : pl.length = pt_l M ∧ pt_f M ≥ 6 ∧ pt_w M ≥ 150 ∧ (rest.map fun v => v.category).sum ≤ 8 := by rw [hl0, hf0, hw0]; exact hm
  cases hv : pm_sc kd as with
  | some v => exact pm_ev_sc hd' rfl hc hkd hv hm'
  | none =>
    show pm_ev M pc pl st w = none
    cases h : pm_ev M pc pl st w with
    | none => rfl
    | some x =>
      obtain ⟨n, hn⟩ := pm_evc_iff.mp h
      cases n with
      | zero => cases hn
      | succ n =>
        rw [pm_run, hd'] at hn
        dsimp only at hn
        rw [show pm_fin (pt_r M) (.invokevirtual ix) 3 st = none from rfl] at hn
        dsimp only at hn
        rw [hc] at hn
        dsimp only at hn
        rw [if_pos hkd, hv] at hn
        cases hn
/-- returns -/
theorem pm_nr {q : Option Value} (ht : pt_at M = (y, b, ml, r, o, f, wd, n)) (hd : decode b pc = .ok (i, len)) (hf : pm_fin r i len st = some q) : pm_ev M pc pl st w = some (q, w) := by
  refine pm_ev_fin (i := i) (len := len) ?_ ?_
  · show decode (pt_at M).2.1 pc = _; rw [ht]; exact hd
  · show pm_fin (pt_at M).2.2.2.1 i len st = _; rw [ht]; exact hf
def pm_zr (v : Int32) (w : pm_H) : Option (Option Value × pm_H) := if v = 0 ∨ v = 1 then some (some (.int v), w) else none
theorem pm_zr0 : pm_zr 0 w = some (some (.int 0), w) := rfl
theorem pm_zr1 : pm_zr 1 w = some (some (.int 1), w) := rfl
theorem pm_zri {c : Prop} {dc : Decidable c} : pm_zr (@ite _ c dc 1 0) w = some (some (.int (@ite _ c dc 1 0)), w) := by
  by_cases h : c
  · rw [if_pos h]; rfl
  · rw [if_neg h]; rfl
theorem pm_nz {v : Int32} (ht : pt_at M = (y, b, ml, some .boolean, o, f, wd, n)) (hd : decode b pc = .ok (.ireturn, 1)) : pm_ev M pc pl [.int v] w = pm_zr v w := by
  unfold pm_zr
  by_cases h : v = 0 ∨ v = 1
  · rw [if_pos h]
    exact pm_nr ht hd (show (if 1 = 1 ∧ (v = 0 ∨ v = 1) then some (some (Value.int v)) else none) = _ from if_pos ⟨rfl, h⟩)
  · rw [if_neg h]
    exact pm_n0 ht hd (show (if 1 = 1 ∧ (v = 0 ∨ v = 1) then some (some (Value.int v)) else none) = _ from if_neg (fun z => h z.2)) rfl rfl
theorem pm_b0 {c : Prop} {dc : Decidable c} : (@ite Int32 c dc 1 0 = 0) = ¬ c := by
  by_cases h : c
  · rw [if_pos h]; simp [h]
  · rw [if_neg h]; simp [h]
theorem pm_up_same {w : pm_H} {k : Nat} {e : va_E} : pm_up w k e k = some e := if_pos rfl
theorem pm_up_ne {w : pm_H} {k j : Nat} {e : va_E} (h : ¬ j = k) : pm_up w k e j = w j := if_neg h
theorem pm_up_up {w : pm_H} {k : Nat} {e e' : va_E} : pm_up (pm_up w k e) k e' = pm_up w k e' := by
  funext j
  unfold pm_up
  by_cases h : j = k
  · rw [if_pos h, if_pos h]
  · rw [if_neg h, if_neg h, if_neg h]
theorem pm_up_comm {w : pm_H} {k j : Nat} {e e' : va_E} (h : ¬ k = j) : pm_up (pm_up w k e) j e' = pm_up (pm_up w j e') k e := by
  funext z
  unfold pm_up
  by_cases h1 : z = k
  · subst h1; rw [if_neg h, if_pos rfl, if_pos rfl]
  · rw [if_neg h1, if_neg h1]
theorem pm_up_id {w : pm_H} {k : Nat} {e : va_E} (h : w k = some e) : pm_up w k e = w := by
  funext j
  unfold pm_up
  by_cases hj : j = k
  · rw [if_pos hj, hj, h]
  · rw [if_neg hj]
theorem pm_ia_in {t k : Nat} {f : Nat → Int32} {j : Int32} (h : vp_in j k) : pm_ia (some (.inl (t, k, .inl f))) t j = some (.int (f j.toNatClampNeg)) := by
  show (if t = t then (if j < 0 ∨ k ≤ j.toNatClampNeg then none else some (Value.int (f j.toNatClampNeg))) else none) = _
  rw [if_pos rfl, if_neg h]
theorem pm_la_in {k : Nat} {f : Nat → Int64} {j : Int32} (h : vp_in j k) : pm_la (some (.inl (1, k, .inr (.inl f)))) j = some (.long (f j.toNatClampNeg)) := by
  show (if 1 = 1 then (if j < 0 ∨ k ≤ j.toNatClampNeg then none else some (Value.long (f j.toNatClampNeg))) else none) = _
  rw [if_pos rfl, if_neg h]
theorem pm_is_in {w : pm_H} {a k : Nat} {f : Nat → Int32} {j x : Int32} (h : vp_in j k) : pm_is w a (some (.inl (0, k, .inl f))) j x = some (pm_up w a (.inl (0, k, .inl (upd f j.toNatClampNeg x)))) := by
  show (if 0 = 0 then (if j < 0 ∨ k ≤ j.toNatClampNeg then none else some (pm_up w a (.inl (0, k, .inl (upd f j.toNatClampNeg x))))) else none) = _
  rw [if_pos rfl, if_neg h]
theorem pm_bs_in {w : pm_H} {a k : Nat} {f : Nat → Int32} {j x : Int32} (h : vp_in j k) : pm_bs w a (some (.inl (2, k, .inl f))) j x = some (pm_up w a (.inl (2, k, .inl (upd f j.toNatClampNeg (vp_nar .byte x))))) := by
  show (if 2 = 2 then (if j < 0 ∨ k ≤ j.toNatClampNeg then none else some (pm_up w a (.inl (2, k, .inl (upd f j.toNatClampNeg (vp_nar .byte x)))))) else none) = _
  rw [if_pos rfl, if_neg h]
theorem pm_ls_in {w : pm_H} {a k : Nat} {f : Nat → Int64} {j : Int32} {x : Int64} (h : vp_in j k) : pm_ls w a (some (.inl (1, k, .inr (.inl f)))) j x = some (pm_up w a (.inl (1, k, .inr (.inl (vp_updL f j.toNatClampNeg x))))) := by
  show (if 1 = 1 then (if j < 0 ∨ k ≤ j.toNatClampNeg then none else some (pm_up w a (.inl (1, k, .inr (.inl (vp_updL f j.toNatClampNeg x)))))) else none) = _
  rw [if_pos rfl, if_neg h]
theorem pm_dv_ne {x y : Int64} (h : ¬ y = 0) : pm_dv x y = some (.long (x / y)) := if_neg h
end PEQ
