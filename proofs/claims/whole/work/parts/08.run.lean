/-! CALLS AND RUNS: a run is a function; what it answers, the machine does -/
def pm_ent (n : Nat) (av : List Value) : pm_L := (lg_sl av ++ List.replicate (n - (lg_sl av).length) Slot.unset).map (fun z => match z with
  | .val v => some v
  | _ => none)
theorem pm_lg_map (ρ : Nat → Nat) (av : List Value) : lg_sl (av.map (pm_rn ρ)) = (lg_sl av).map (fun z => match z with
  | .val v => Slot.val (pm_rn ρ v)
  | z => z) := by
  induction av with
  | nil => rfl
  | cons v t ih =>
    simp only [lg_sl, List.map_cons, List.flatMap_cons, List.map_append] at ih ⊢
    rw [ih, pm_cat]
    congr 1
    split <;> rfl
theorem pm_ent_lh (ρ : Nat → Nat) (av : List Value) {n : Nat} (h : (lg_sl av).length ≤ n) : pm_lh ρ ((lg_sl (av.map (pm_rn ρ)) ++ List.replicate (n - (lg_sl (av.map (pm_rn ρ))).length) Slot.unset).toArray) (pm_ent n av) := by
  have hlen : (lg_sl (av.map (pm_rn ρ))).length = (lg_sl av).length := by rw [pm_lg_map, List.length_map]
  have hh := lv_entry (av.map (pm_rn ρ)) (n := n) (by rw [hlen]; exact h)
  refine ⟨?_, hh.2.1, fun i v hv => ?_⟩
  · rw [hh.1]
    unfold pm_ent
    rw [List.length_map, List.length_append, List.length_replicate]
    omega
  · unfold pm_ent at hv
    rw [List.getElem?_map] at hv
    rw [hlen, pm_lg_map, List.getElem?_toArray]
    by_cases hi : i < (lg_sl av).length
    · rw [List.getElem?_append_left hi] at hv
      rw [List.getElem?_append_left (by rw [List.length_map]; exact hi), List.getElem?_map]
      cases hz : (lg_sl av)[i]? with
      | none => rw [hz] at hv; cases hv
      | some z =>
        rw [hz] at hv
        cases z <;> cases hv
        rfl
    · rw [List.getElem?_append_right (by omega)] at hv
      cases hz : (List.replicate (n - (lg_sl av).length) Slot.unset)[i - (lg_sl av).length]? with
      | none => rw [hz] at hv; cases hv
      | some z =>
        rw [hz] at hv
        have := List.eq_of_mem_replicate (List.mem_of_getElem? hz)
        subst this
        cases hv
/-- a return: the answer -/
def pm_fin (rt : Option FieldType) (i : Instr) (len : Nat) (st : List Value) : Option (Option Value) := match i, st, rt with
  | .ireturn, [.int v], some .int => if len = 1 then some (some (.int v)) else none
  | .ireturn, [.int v], some .boolean => if len = 1 ∧ (v = 0 ∨ v = 1) then some (some (.int v)) else none
  | .lreturn, [.long v], some .long => if len = 1 then some (some (.long v)) else none
  | .return_, [], none => if len = 1 then some none else none
  | _, _, _ => none
/-- a call: kind, method, its arguments with the receiver, what stays on the stack -/
def pm_cl (o : Nat) (i : Instr) (len : Nat) (st : List Value) : Option (Nat × Nat × List Value × List Value) := match i with
  | .invokevirtual ix => if len = 3 then (match pt_M o ix with
    | some (0, M) => some (0, M, (st.take (pt_n M + 1)).reverse, st.drop (pt_n M + 1))
    | some (3, M) => some (3, M, (st.take 1).reverse, st.drop 1)
    | some (4, M) => some (4, M, (st.take 2).reverse, st.drop 2)
    | _ => none) else none
  | .invokestatic ix => if len = 3 then (match pt_M o ix with
    | some (1, M) => some (1, M, (st.take (pt_n M)).reverse, st.drop (pt_n M))
    | some (2, M) => some (2, M, (st.take (pt_n M)).reverse, st.drop (pt_n M))
    | _ => none) else none
  | _ => none
/-- may be called: the room, the receiver, the number of arguments -/
def pm_may (M kd M' : Nat) (av rest : List Value) (w : pm_H) (nl : Nat) : Bool := decide (nl = pt_l M ∧ pt_f M' + 1 ≤ pt_f M ∧ 8 + (pt_l M' + 11) + pt_w M' ≤ pt_w M ∧ (rest.map fun v => v.category).sum ≤ 8 ∧ (lg_sl av).length ≤ pt_l M') && (match kd, av with
  | 0, .ref b :: as => decide (as.length = pt_n M') && (match w b with
    | some (.inr (ci, _)) => decide (ci = pt_o M')
    | _ => false)
  | 1, as => decide (as.length = pt_n M')
  | 2, as => decide (as.length = pt_n M')
  | _, _ => false)
/-- the String constants' own methods -/
def pm_sc (kd : Nat) (av : List Value) : Option Value := match kd, av with
  | 3, [.ref k] => if 1000 ≤ k ∧ k - 1000 < pt_sx.length then some (.int (Int32.ofNat (pt_sn.getD (k - 1000) 0))) else none
  | 4, [.ref k, .int j] => if 1000 ≤ k ∧ k - 1000 < pt_sx.length then (if j < 0 ∨ pt_sn.getD (k - 1000) 0 ≤ j.toNatClampNeg then none else some (.int ((pt_sb.getD (k - 1000) []).getD j.toNatClampNeg 0))) else none
  | _, _ => none
def pm_run : Nat → Nat → pm_C → Option (Option Value × pm_H)
  | 0, _, _ => none
  | n + 1, M, (pc, pl, st, w) => match decode (pt_b M) pc with
    | .error _ => none
    | .ok (i, len) => match pm_fin (pt_r M) i len st with
      | some r => some (r, w)
      | none => match pm_cl (pt_o M) i len st with
        | some (kd, M', av, rest) => if kd = 3 ∨ kd = 4 then (match pm_sc kd av with
            | some v => if pl.length = pt_l M ∧ pt_f M ≥ 6 ∧ pt_w M ≥ 150 ∧ (rest.map fun v => v.category).sum ≤ 8 then pm_run n M (pc + 3, pl, v :: rest, w) else none
            | none => none)
          else if pm_may M kd M' av rest w pl.length = true then (match pm_run n M' (0, pm_ent (pt_l M') av, [], w) with
            | some (r, w') => pm_run n M (pc + 3, pl, r.toList ++ rest, w')
            | none => none) else none
        | none => match pm_s (pt_F (pt_o M)) (pt_K (pt_o M)) i len pc pl st w with
          | some cf => pm_run n M cf
          | none => none
theorem pm_run_mono : ∀ (n M : Nat) (cf : pm_C) (x : Option Value × pm_H), pm_run n M cf = some x → pm_run (n + 1) M cf = some x := by
  intro n
  induction n with
  | zero => intro M cf x h; cases h
  | succ n ih =>
    intro M cf x h
    obtain ⟨pc, pl, st, w⟩ := cf
    rw [pm_run] at h ⊢
    split at h
    · cases h
    · rename_i i len hd
      try rw [hd]
      try dsimp only
      split at h
      · rename_i r hf
        try rw [hf]
        exact h
      · rename_i hf
        try rw [hf]
        try dsimp only
        split at h
        · rename_i kd M' av rest hc
          try rw [hc]
          try dsimp only
          split at h
          · rename_i hk
            try rw [if_pos hk]
            split at h
            · rename_i v hv
              try rw [hv]
              try dsimp only
              split at h
              · rename_i hr
                try rw [if_pos hr]
                exact ih M _ x h
              · cases h
            · cases h
          · rename_i hk
            try rw [if_neg hk]
            split at h
            · rename_i hm
              try rw [if_pos hm]
              split at h
              · rename_i r w' hr
                try rw [ih M' _ _ hr]
                exact ih M _ x h
              · cases h
            · cases h
        · rename_i hc
          try rw [hc]
          try dsimp only
          split at h
          · rename_i cf hs
            try rw [hs]
            exact ih M _ x h
          · cases h
theorem pm_run_le {n k M : Nat} {cf : pm_C} {x : Option Value × pm_H} (h : pm_run n M cf = some x) (hk : n ≤ k) : pm_run k M cf = some x := by
  induction hk with
  | refl => exact h
  | step _ ih => exact pm_run_mono _ M cf x ih
/-- what a run answers, however long it is -/
noncomputable def pm_evc (M : Nat) (cf : pm_C) : Option (Option Value × pm_H) := @dite _ (∃ n x, pm_run n M cf = some x) (Classical.propDecidable _) (fun h => some (Classical.choose (Classical.choose_spec h))) (fun _ => none)
theorem pm_evc_iff {M : Nat} {cf : pm_C} {x : Option Value × pm_H} : pm_evc M cf = some x ↔ ∃ n, pm_run n M cf = some x := by
  unfold pm_evc
  constructor
  · intro h
    split at h
    · rename_i hh
      cases h
      exact ⟨_, Classical.choose_spec (Classical.choose_spec hh)⟩
    · cases h
  · rintro ⟨n, h⟩
    have hh : ∃ n x, pm_run n M cf = some x := ⟨n, x, h⟩
    rw [dif_pos hh]
    have h2 := Classical.choose_spec (Classical.choose_spec hh)
    have h3 := pm_run_le h (Nat.le_max_left n (Classical.choose hh))
    have h4 := pm_run_le h2 (Nat.le_max_right n (Classical.choose hh))
    exact h4.symm.trans h3
theorem pm_evc_eq {M M2 : Nat} {a b : pm_C} (h1 : ∀ n x, pm_run n M a = some x → ∃ k, pm_run k M2 b = some x) (h2 : ∀ n x, pm_run n M2 b = some x → ∃ k, pm_run k M a = some x) : pm_evc M a = pm_evc M2 b := by
  cases hb : pm_evc M2 b with
  | some x =>
    obtain ⟨n, hn⟩ := pm_evc_iff.mp hb
    exact pm_evc_iff.mpr (h2 n x hn)
  | none =>
    cases ha : pm_evc M a with
    | none => rfl
    | some x =>
      obtain ⟨n, hn⟩ := pm_evc_iff.mp ha
      obtain ⟨k, hk⟩ := h1 n x hn
      rw [pm_evc_iff.mpr ⟨k, hk⟩] at hb
      cases hb
noncomputable def pm_ev (M pc : Nat) (pl : pm_L) (st : List Value) (w : pm_H) : Option (Option Value × pm_H) := pm_evc M (pc, pl, st, w)
/-- a method, called -/
noncomputable def pm_call (M : Nat) (av : List Value) (w : pm_H) : Option (Option Value × pm_H) := pm_ev M 0 (pm_ent (pt_l M) av) [] w
noncomputable def pm_k (M pc : Nat) (pl : pm_L) (st : List Value) (x : Option (Option Value × pm_H)) : Option (Option Value × pm_H) := match x with
  | some (r, w) => pm_ev M pc pl (r.toList ++ st) w
  | none => none
noncomputable def pm_kv (M pc : Nat) (pl : pm_L) (st : List Value) (w : pm_H) (x : Option Value) : Option (Option Value × pm_H) := match x with
  | some v => pm_ev M pc pl (v :: st) w
  | none => none
noncomputable def pm_kw (M pc : Nat) (pl : pm_L) (st : List Value) (x : Option pm_H) : Option (Option Value × pm_H) := match x with
  | some w => pm_ev M pc pl st w
  | none => none
theorem pm_k_some {M pc : Nat} {pl : pm_L} {st : List Value} {v : Value} {w : pm_H} : pm_k M pc pl st (some (some v, w)) = pm_ev M pc pl (v :: st) w := rfl
theorem pm_k_void {M pc : Nat} {pl : pm_L} {st : List Value} {w : pm_H} : pm_k M pc pl st (some (none, w)) = pm_ev M pc pl st w := rfl
theorem pm_kv_some {M pc : Nat} {pl : pm_L} {st : List Value} {v : Value} {w : pm_H} : pm_kv M pc pl st w (some v) = pm_ev M pc pl (v :: st) w := rfl
theorem pm_kw_some {M pc : Nat} {pl : pm_L} {st : List Value} {w : pm_H} : pm_kw M pc pl st (some w) = pm_ev M pc pl st w := rfl
theorem pm_ev_fin {M pc len : Nat} {pl : pm_L} {st : List Value} {w : pm_H} {i : Instr} {r : Option Value} (hd : decode (pt_b M) pc = .ok (i, len)) (hf : pm_fin (pt_r M) i len st = some r) : pm_ev M pc pl st w = some (r, w) := by
  refine pm_evc_iff.mpr ⟨1, ?_⟩
  rw [pm_run, hd]
  dsimp only
  rw [hf]
theorem pm_run_next {n M pc len : Nat} {pl : pm_L} {st : List Value} {w : pm_H} {i : Instr} {cf : pm_C} (hd : decode (pt_b M) pc = .ok (i, len)) (hf : pm_fin (pt_r M) i len st = none) (hc : pm_cl (pt_o M) i len st = none) (hs : pm_s (pt_F (pt_o M)) (pt_K (pt_o M)) i len pc pl st w = some cf) : pm_run (n + 1) M (pc, pl, st, w) = pm_run n M cf := by
  rw [pm_run, hd]
  dsimp only
  rw [hf]
  dsimp only
  rw [hc]
  dsimp only
  rw [hs]
theorem pm_ev_next {M pc len : Nat} {pl : pm_L} {st : List Value} {w : pm_H} {i : Instr} {cf : pm_C} (hd : decode (pt_b M) pc = .ok (i, len)) (hf : pm_fin (pt_r M) i len st = none) (hc : pm_cl (pt_o M) i len st = none) (hs : pm_s (pt_F (pt_o M)) (pt_K (pt_o M)) i len pc pl st w = some cf) : pm_ev M pc pl st w = pm_ev M cf.1 cf.2.1 cf.2.2.1 cf.2.2.2 := by
  refine pm_evc_eq (fun n x h => ?_) (fun n x h => ⟨n + 1, ?_⟩)
  · cases n with
    | zero => cases h
    | succ n => rw [pm_run_next hd hf hc hs] at h; exact ⟨n, h⟩
  · rw [pm_run_next hd hf hc hs]; exact h
theorem pm_ev_none {M pc len : Nat} {pl : pm_L} {st : List Value} {w : pm_H} {i : Instr} (hd : decode (pt_b M) pc = .ok (i, len)) (hf : pm_fin (pt_r M) i len st = none) (hc : pm_cl (pt_o M) i len st = none) (hs : pm_s (pt_F (pt_o M)) (pt_K (pt_o M)) i len pc pl st w = none) : pm_ev M pc pl st w = none := by
  cases h : pm_ev M pc pl st w with
  | none => rfl
  | some x =>
    obtain ⟨n, hn⟩ := pm_evc_iff.mp h
    cases n with
    | zero => cases hn
    | succ n =>
      rw [pm_run, hd] at hn
      dsimp only at hn
      rw [hf] at hn
      dsimp only at hn
      rw [hc] at hn
      dsimp only at hn
      rw [hs] at hn
      cases hn
theorem pm_ev_call {M pc len kd M' : Nat} {pl : pm_L} {st av rest : List Value} {w : pm_H} {i : Instr} (hd : decode (pt_b M) pc = .ok (i, len)) (hf : pm_fin (pt_r M) i len st = none) (hc : pm_cl (pt_o M) i len st = some (kd, M', av, rest)) (hk : ¬ (kd = 3 ∨ kd = 4)) (hm : pm_may M kd M' av rest w pl.length = true) : pm_ev M pc pl st w = pm_k M (pc + 3) pl rest (pm_call M' av w) := by
  have key : ∀ n, pm_run (n + 1) M (pc, pl, st, w) = (match pm_run n M' (0, pm_ent (pt_l M') av, [], w) with
            | some (r, w') => pm_run n M (pc + 3, pl, r.toList ++ rest, w')
            | none => none) := by
    intro n
    rw [pm_run, hd]
    dsimp only
    rw [hf]
    dsimp only
    rw [hc]
    dsimp only
    rw [if_neg hk, if_pos hm]
  cases h1 : pm_call M' av w with
  | none =>
    show pm_ev M pc pl st w = none
    cases h : pm_ev M pc pl st w with
    | none => rfl
    | some x =>
      obtain ⟨n, hn⟩ := pm_evc_iff.mp h
      cases n with
      | zero => cases hn
      | succ n =>
        rw [key] at hn
        split at hn
        · rename_i r w' hr
          have := pm_evc_iff.mpr ⟨n, hr⟩
          rw [show pm_evc M' (0, pm_ent (pt_l M') av, [], w) = pm_call M' av w from rfl, h1] at this
          cases this
        · cases hn
  | some q =>
    obtain ⟨r, w'⟩ := q
    obtain ⟨n0, hn0⟩ := pm_evc_iff.mp h1
    show pm_evc M (pc, pl, st, w) = pm_evc M (pc + 3, pl, r.toList ++ rest, w')
    refine pm_evc_eq (fun n x h => ?_) (fun n x h => ⟨max n n0 + 1, ?_⟩)
    · cases n with
      | zero => cases h
      | succ n =>
        rw [key] at h
        split at h
        · rename_i r2 w2 hr
          have h5 := pm_evc_iff.mpr ⟨n, hr⟩
          rw [pm_evc_iff.mpr ⟨n0, hn0⟩] at h5
          cases h5
          exact ⟨n, h⟩
        · cases h
    · rw [key, pm_run_le hn0 (Nat.le_max_right n n0)]
      exact pm_run_le h (Nat.le_max_left n n0)
theorem pm_ev_sc {M pc len kd M' : Nat} {pl : pm_L} {st av rest : List Value} {w : pm_H} {i : Instr} {v : Value} (hd : decode (pt_b M) pc = .ok (i, len)) (hf : pm_fin (pt_r M) i len st = none) (hc : pm_cl (pt_o M) i len st = some (kd, M', av, rest)) (hk : kd = 3 ∨ kd = 4) (hv : pm_sc kd av = some v) (hm : pl.length = pt_l M ∧ pt_f M ≥ 6 ∧ pt_w M ≥ 150 ∧ (rest.map fun v => v.category).sum ≤ 8) : pm_ev M pc pl st w = pm_ev M (pc + 3) pl (v :: rest) w := by
  have key : ∀ n, pm_run (n + 1) M (pc, pl, st, w) = pm_run n M (pc + 3, pl, v :: rest, w) := by
    intro n
    rw [pm_run, hd]
    dsimp only
    rw [hf]
    dsimp only
    rw [hc]
    dsimp only
    rw [if_pos hk, hv]
    dsimp only
    rw [if_pos hm]
  refine pm_evc_eq (fun n x h => ?_) (fun n x h => ⟨n + 1, ?_⟩)
  · cases n with
    | zero => cases h
    | succ n => rw [key] at h; exact ⟨n, h⟩
  · rw [key]; exact h
