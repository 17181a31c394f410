/-! THE PURE MACHINE: worlds are functions from names of cells (numbers) to cells; a step is a function -/
abbrev pm_L : Type := List (Option Value)
abbrev pm_H : Type := Nat → Option va_E
abbrev pm_C : Type := Nat × pm_L × List Value × pm_H
def pm_up (w : pm_H) (k : Nat) (e : va_E) : pm_H := fun j => if j = k then some e else w j
def pm_vk (v : Value) : Nat := match v with
  | .int _ => 0
  | .long _ => 1
  | .ref _ => 2
  | _ => 9
def pm_gf (o : Option va_E) (ci k : Nat) : Option Value := match o with
  | some (.inr (c, fs)) => if c = ci then fs[k]? else none
  | _ => none
def pm_pf (w : pm_H) (a : Nat) (o : Option va_E) (ci k t : Nat) (v : Value) : Option pm_H := match o with
  | some (.inr (c, fs)) => if c = ci ∧ k < fs.length ∧ pm_vk v = t then some (pm_up w a (.inr (ci, fs.set k v))) else none
  | _ => none
def pm_ia (o : Option va_E) (t : Nat) (i : Int32) : Option Value := match o with
  | some (.inl (ty, n, .inl f)) => if ty = t then (if i < 0 ∨ n ≤ i.toNatClampNeg then none else some (.int (f i.toNatClampNeg))) else none
  | _ => none
def pm_la (o : Option va_E) (i : Int32) : Option Value := match o with
  | some (.inl (ty, n, .inr (.inl f))) => if ty = 1 then (if i < 0 ∨ n ≤ i.toNatClampNeg then none else some (.long (f i.toNatClampNeg))) else none
  | _ => none
def pm_is (w : pm_H) (a : Nat) (o : Option va_E) (i x : Int32) : Option pm_H := match o with
  | some (.inl (ty, n, .inl f)) => if ty = 0 then (if i < 0 ∨ n ≤ i.toNatClampNeg then none else some (pm_up w a (.inl (0, n, .inl (upd f i.toNatClampNeg x))))) else none
  | _ => none
def pm_bs (w : pm_H) (a : Nat) (o : Option va_E) (i x : Int32) : Option pm_H := match o with
  | some (.inl (ty, n, .inl f)) => if ty = 2 then (if i < 0 ∨ n ≤ i.toNatClampNeg then none else some (pm_up w a (.inl (2, n, .inl (upd f i.toNatClampNeg (vp_nar .byte x)))))) else none
  | _ => none
def pm_ls (w : pm_H) (a : Nat) (o : Option va_E) (i : Int32) (x : Int64) : Option pm_H := match o with
  | some (.inl (ty, n, .inr (.inl f))) => if ty = 1 then (if i < 0 ∨ n ≤ i.toNatClampNeg then none else some (pm_up w a (.inl (1, n, .inr (.inl (vp_updL f i.toNatClampNeg x)))))) else none
  | _ => none
/-- no long or double lies in the place ahead of k -/
def pm_no (pl : pm_L) (k : Nat) : Bool := match k with
  | 0 => true
  | j + 1 => match pl[j]? with
    | some (some (.long _)) => false
    | some (some (.double _)) => false
    | _ => true
def pm_sto (pl : pm_L) (k : Nat) (v : Value) : Option pm_L := match v with
  | .long _ => if k + 1 < pl.length ∧ pm_no pl k = true then some ((pl.set k (some v)).set (k + 1) none) else none
  | .double _ => none
  | _ => if k < pl.length ∧ pm_no pl k = true then some (pl.set k (some v)) else none
def pm_kc (i : Instr) : Option (Nat × Value) := match i with
  | .iconst n => some (1, .int (Int32.ofInt n))
  | .bipush n => some (2, .int (Int8.ofInt n).toInt32)
  | .sipush n => some (3, .int (Int16.ofInt n).toInt32)
  | .lconst n => some (1, .long (Int64.ofNat (n : Nat)))
  | _ => none
def pm_kl (i : Instr) : Option (Nat × Nat × Nat) := match i with
  | .iload_n k => some (1, k, 0)
  | .iload k => some (2, k, 0)
  | .lload_n k => some (1, k, 1)
  | .lload k => some (2, k, 1)
  | .aload_n k => some (1, k, 2)
  | .aload k => some (2, k, 2)
  | _ => none
def pm_ks (i : Instr) : Option (Nat × Nat × Nat) := match i with
  | .istore_n k => some (1, k, 0)
  | .istore k => some (2, k, 0)
  | .lstore_n k => some (1, k, 1)
  | .lstore k => some (2, k, 1)
  | .astore_n k => some (1, k, 2)
  | .astore k => some (2, k, 2)
  | _ => none
def pm_k2 (i : Instr) : Option (Int32 → Int32 → Int32) := match i with
  | .iadd => some (fun x y => x + y)
  | .isub => some (fun x y => x - y)
  | .imul => some (fun x y => x * y)
  | .iand => some (fun x y => x &&& y)
  | .ior => some (fun x y => x ||| y)
  | .ishl => some (fun x y => x <<< (y &&& 31))
  | .ishr => some (fun x y => x >>> (y &&& 31))
  | .iushr => some (fun x y => (x.toUInt32 >>> (y.toUInt32 &&& Int32.toUInt32 31)).toInt32)
  | _ => none
def pm_k3 (i : Instr) : Option (Int64 → Int64 → Int64) := match i with
  | .ladd => some (fun x y => x + y)
  | .lsub => some (fun x y => x - y)
  | .lmul => some (fun x y => x * y)
  | .lxor => some (fun x y => x ^^^ y)
  | _ => none
def pm_tg (pc : Nat) (off : Int) : Nat := ((pc : Int) + off).toNat
/-- constants, loads -/
def pm_sA (i : Instr) (len pc : Nat) (pl : pm_L) (st : List Value) (w : pm_H) : Option pm_C := match pm_kc i with
  | some (n, v) => if len = n then some (pc + n, pl, v :: st, w) else none
  | none => none
def pm_sB (i : Instr) (len pc : Nat) (pl : pm_L) (st : List Value) (w : pm_H) : Option pm_C := match pm_kl i with
  | some (n, k, t) => if len = n then (match pl[k]? with
    | some (some v) => if pm_vk v = t then some (pc + n, pl, v :: st, w) else none
    | _ => none) else none
  | none => none
def pm_sC (i : Instr) (len pc : Nat) (pl : pm_L) (st : List Value) (w : pm_H) : Option pm_C := match pm_ks i with
  | some (n, k, t) => if len = n then (match st with
    | v :: r => if pm_vk v = t then (match pm_sto pl k v with
      | some pl' => some (pc + n, pl', r, w)
      | none => none) else none
    | _ => none) else none
  | none => none
def pm_sD (i : Instr) (len pc : Nat) (pl : pm_L) (st : List Value) (w : pm_H) : Option pm_C := match pm_k2 i with
  | some f => (match st with
    | .int y :: .int x :: r => if len = 1 then some (pc + 1, pl, .int (f x y) :: r, w) else none
    | _ => none)
  | none => none
def pm_sE (i : Instr) (len pc : Nat) (pl : pm_L) (st : List Value) (w : pm_H) : Option pm_C := match pm_k3 i with
  | some f => (match st with
    | .long y :: .long x :: r => if len = 1 then some (pc + 1, pl, .long (f x y) :: r, w) else none
    | _ => none)
  | none => none
/-- the rest of the numbers -/
def pm_sF (i : Instr) (len pc : Nat) (pl : pm_L) (st : List Value) (w : pm_H) : Option pm_C := match i, st with
  | .ineg, .int x :: r => if len = 1 then some (pc + 1, pl, .int (-x) :: r, w) else none
  | .i2l, .int x :: r => if len = 1 then some (pc + 1, pl, .long x.toInt64 :: r, w) else none
  | .l2i, .long x :: r => if len = 1 then some (pc + 1, pl, .int x.toInt32 :: r, w) else none
  | .i2b, .int x :: r => if len = 1 then some (pc + 1, pl, .int x.toInt8.toInt32 :: r, w) else none
  | .ldiv, .long y :: .long x :: r => if len = 1 then (if y = 0 then none else some (pc + 1, pl, .long (x / y) :: r, w)) else none
  | .lcmp, .long y :: .long x :: r => if len = 1 then some (pc + 1, pl, .int (lg_cmp x y) :: r, w) else none
  | .dup, v :: r => if len = 1 ∧ v.category = 1 then some (pc + 1, pl, v :: v :: r, w) else none
  | .dup2, v :: u :: r => if len = 1 ∧ v.category = 1 ∧ u.category = 1 then some (pc + 1, pl, v :: u :: v :: u :: r, w) else none
  | .pop, v :: r => if len = 1 ∧ v.category = 1 then some (pc + 1, pl, r, w) else none
  | .iinc k n, st => if len = 3 then (match pl[k]? with
    | some (some (.int x)) => (match pm_sto pl k (.int (x + Int32.ofInt n)) with
      | some pl' => some (pc + 3, pl', st, w)
      | none => none)
    | _ => none) else none
  | _, _ => none
def pm_cc (c : Jvm.ClassFile.Cond) (x y : Int32) : Prop := match c with
  | .eq => x = y
  | .ne => ¬ x = y
  | .lt => x < y
  | .ge => y ≤ x
  | .gt => y < x
  | .le => x ≤ y
def pm_cd (c : Jvm.ClassFile.Cond) (x y : Int32) : Decidable (pm_cc c x y) := match c with
  | .eq => inferInstanceAs (Decidable (x = y))
  | .ne => inferInstanceAs (Decidable (¬ x = y))
  | .lt => inferInstanceAs (Decidable (x < y))
  | .ge => inferInstanceAs (Decidable (y ≤ x))
  | .gt => inferInstanceAs (Decidable (y < x))
  | .le => inferInstanceAs (Decidable (x ≤ y))
/-- branches -/
def pm_sG (i : Instr) (len pc : Nat) (pl : pm_L) (st : List Value) (w : pm_H) : Option pm_C := match i, st with
  | .ifCond cn off, .int x :: r => if len = 3 ∧ 0 ≤ (pc : Int) + off then some (@ite _ (pm_cc cn x 0) (pm_cd cn x 0) (pm_tg pc off, pl, r, w) (pc + 3, pl, r, w)) else none
  | .if_icmp cn off, .int y :: .int x :: r => if len = 3 ∧ 0 ≤ (pc : Int) + off then some (@ite _ (pm_cc cn x y) (pm_cd cn x y) (pm_tg pc off, pl, r, w) (pc + 3, pl, r, w)) else none
  | .goto off, r => if len = 3 ∧ 0 ≤ (pc : Int) + off then some (pm_tg pc off, pl, r, w) else none
  | .tableswitch d lo hi offs, .int x :: r => if x.toInt < lo ∨ hi < x.toInt then (if 0 ≤ (pc : Int) + d then some (pm_tg pc d, pl, r, w) else none) else (match offs[(x.toInt - lo).toNat]? with
    | some off => if 0 ≤ (pc : Int) + off then some (pm_tg pc off, pl, r, w) else none
    | none => none)
  | .lookupswitch d ps, .int x :: r => if (ps.toList.zip (ps.toList.drop 1)).all (fun (a, next) => a.1 < next.1) = true ∧ 0 ≤ (pc : Int) + Op.lookupswitch.offset ps.toList d x.toInt then some (pm_tg pc (Op.lookupswitch.offset ps.toList d x.toInt), pl, r, w) else none
  | _, _ => none
def pm_or (a b : Option pm_C) : Option pm_C := match a with
  | some c => some c
  | none => b
theorem pm_or_some {a b : Option pm_C} {c : pm_C} (h : pm_or a b = some c) : a = some c ∨ b = some c := by
  cases a with
  | none => exact Or.inr h
  | some x => exact Or.inl h
/-- the cells: F: (own class, pool number) to (class, slot, kind, final) -/
def pm_sH (F : Nat → Option (Nat × Nat × Nat × Bool)) (K : Nat → Option Value) (i : Instr) (len pc : Nat) (pl : pm_L) (st : List Value) (w : pm_H) : Option pm_C := match i, st with
  | .getfield ix, .ref a :: r => if len = 3 then (match F ix with
    | some (ci, k, _, _) => (match pm_gf (w a) ci k with
      | some v => some (pc + 3, pl, v :: r, w)
      | none => none)
    | none => none) else none
  | .putfield ix, v :: .ref a :: r => if len = 3 then (match F ix with
    | some (ci, k, t, false) => (match pm_pf w a (w a) ci k t v with
      | some w' => some (pc + 3, pl, r, w')
      | none => none)
    | _ => none) else none
  | .iaload, .int i :: .ref a :: r => if len = 1 then (match pm_ia (w a) 0 i with
    | some v => some (pc + 1, pl, v :: r, w)
    | none => none) else none
  | .baload, .int i :: .ref a :: r => if len = 1 then (match pm_ia (w a) 2 i with
    | some v => some (pc + 1, pl, v :: r, w)
    | none => none) else none
  | .laload, .int i :: .ref a :: r => if len = 1 then (match pm_la (w a) i with
    | some v => some (pc + 1, pl, v :: r, w)
    | none => none) else none
  | .iastore, .int x :: .int i :: .ref a :: r => if len = 1 then (match pm_is w a (w a) i x with
    | some w' => some (pc + 1, pl, r, w')
    | none => none) else none
  | .bastore, .int x :: .int i :: .ref a :: r => if len = 1 then (match pm_bs w a (w a) i x with
    | some w' => some (pc + 1, pl, r, w')
    | none => none) else none
  | .lastore, .long x :: .int i :: .ref a :: r => if len = 1 then (match pm_ls w a (w a) i x with
    | some w' => some (pc + 1, pl, r, w')
    | none => none) else none
  | .ldc ix, r => if len = 2 then (match K ix with
    | some v => if pm_vk v = 1 then none else some (pc + 2, pl, v :: r, w)
    | none => none) else none
  | .ldc_w ix, r => if len = 3 then (match K ix with
    | some v => if pm_vk v = 0 then some (pc + 3, pl, v :: r, w) else none
    | none => none) else none
  | .ldc2_w ix, r => if len = 3 then (match K ix with
    | some v => if pm_vk v = 1 then some (pc + 3, pl, v :: r, w) else none
    | none => none) else none
  | _, _ => none
def pm_s (F : Nat → Option (Nat × Nat × Nat × Bool)) (K : Nat → Option Value) (i : Instr) (len pc : Nat) (pl : pm_L) (st : List Value) (w : pm_H) : Option pm_C :=
  pm_or (pm_sA i len pc pl st w) (pm_or (pm_sB i len pc pl st w) (pm_or (pm_sC i len pc pl st w) (pm_or (pm_sD i len pc pl st w) (pm_or (pm_sE i len pc pl st w) (pm_or (pm_sF i len pc pl st w) (pm_or (pm_sG i len pc pl st w) (pm_sH F K i len pc pl st w)))))))
/-! ===== its soundness, instruction by instruction ===== -/
def pm_rn (ρ : Nat → Nat) (v : Value) : Value := match v with
  | .ref k => .ref (ρ k)
  | v => v
def pm_cv (ρ : Nat → Nat) (τ : Nat → ClassId) (e : va_E) : va_E := match e with
  | .inl (t, a) => .inl (τ t, a)
  | .inr (ci, fs) => .inr (ci, fs.map (pm_rn ρ))
def pm_lh (ρ : Nat → Nat) (ls : Array Slot) (pl : pm_L) : Prop := ls.size = pl.length ∧ lv_wf ls ∧ ∀ (i : Nat) (v : Value), pl[i]? = some (some v) → ls[i]? = some (.val (pm_rn ρ v))
def pm_Sim (ρ : Nat → Nat) (τ : Nat → ClassId) (D : va_G) (sz : Nat) (w : pm_H) (H : Heap) : Prop :=
  (∀ (k : Nat) (e : va_E), w k = some e → va_at D vwCl (ρ k, pm_cv ρ τ e) H ∧ sz ≤ ρ k) ∧ ∀ (k j : Nat) (e f : va_E), w k = some e → w j = some f → ρ k = ρ j → k = j
def pm_lv (ρ : Nat → Nat) (pl : pm_L) : List (Nat × Value) := (List.range pl.length).filterMap (fun i => match pl[i]? with
  | some (some v) => some (i, pm_rn ρ v)
  | _ => none)
theorem pm_lv_mem {ρ : Nat → Nat} {pl : pm_L} {i : Nat} {u : Value} : (i, u) ∈ pm_lv ρ pl ↔ ∃ v, pl[i]? = some (some v) ∧ u = pm_rn ρ v := by
  unfold pm_lv
  rw [List.mem_filterMap]
  constructor
  · rintro ⟨j, hj, h⟩
    split at h
    · rename_i v hv
      cases h
      exact ⟨v, hv, rfl⟩
    · cases h
  · rintro ⟨v, hv, rfl⟩
    refine ⟨i, List.mem_range.mpr (List.getElem?_eq_some_iff.mp hv).1, ?_⟩
    rw [hv]
theorem pm_lh.has {ρ : Nat → Nat} {ls : Array Slot} {pl : pm_L} (h : pm_lh ρ ls pl) : lv_has ls pl.length (pm_lv ρ pl) := by
  refine ⟨h.1, h.2.1, fun q hq => ?_⟩
  obtain ⟨i, u⟩ := q
  obtain ⟨v, hv, rfl⟩ := pm_lv_mem.mp hq
  exact h.2.2 i v hv
theorem pm_cat (ρ : Nat → Nat) (v : Value) : (pm_rn ρ v).category = v.category := by cases v <;> rfl
theorem pm_no_spec {pl : pm_L} {k j : Nat} {u : Value} (h : pm_no pl k = true) (hj : j + 1 = k) (hu : pl[j]? = some (some u)) : ¬ u.category = 2 := by
  subst hj
  simp only [pm_no, hu] at h
  cases u <;> first | (intro h2; cases h2; done) | (cases h; done)
/-- storing a value of one word -/
theorem pm_lh.set1 {ρ : Nat → Nat} {ls' : Array Slot} {pl : pm_L} {k : Nat} {v : Value} (hk : k < pl.length) (hno : pm_no pl k = true)
    (h : lv_has ls' pl.length ((k, pm_rn ρ v) :: (pm_lv ρ pl).filter (fun q => !(q.1 == k) && !(q.1 + 1 == k && q.2.category == 2)))) : pm_lh ρ ls' (pl.set k (some v)) := by
  refine ⟨by rw [h.1, List.length_set], h.2.1, fun i u hu => ?_⟩
  by_cases hik : i = k
  · subst hik
    rw [List.getElem?_set_self hk] at hu
    cases hu
    exact h.2.2 (i, pm_rn ρ v) List.mem_cons_self
  · rw [List.getElem?_set_ne (Ne.symm hik)] at hu
    refine h.2.2 (i, pm_rn ρ u) (List.mem_cons_of_mem _ (List.mem_filter.mpr ⟨pm_lv_mem.mpr ⟨u, hu, rfl⟩, ?_⟩))
    have h1 : (i == k) = false := by simp [hik]
    have h2 : (i + 1 == k && (pm_rn ρ u).category == 2) = false := by
      by_cases hi : i + 1 = k
      · have := pm_no_spec hno hi hu
        rw [pm_cat]
        simp [this]
      · simp [hi]
    show (!(i == k) && !(i + 1 == k && (pm_rn ρ u).category == 2)) = true
    rw [h1, h2]
    rfl
/-- storing a long -/
theorem pm_lh.set2 {ρ : Nat → Nat} {ls' : Array Slot} {pl : pm_L} {k : Nat} {v : Value} (hk : k + 1 < pl.length) (hno : pm_no pl k = true)
    (h : lv_has ls' pl.length ((k, pm_rn ρ v) :: (pm_lv ρ pl).filter (fun q => !(q.1 == k) && (!(q.1 == k + 1) && !(q.1 + 1 == k && q.2.category == 2))))) : pm_lh ρ ls' ((pl.set k (some v)).set (k + 1) none) := by
  refine ⟨by rw [h.1, List.length_set, List.length_set], h.2.1, fun i u hu => ?_⟩
  by_cases hi1 : i = k + 1
  · subst hi1
    rw [List.getElem?_set_self (by rw [List.length_set]; exact hk)] at hu
    cases hu
  rw [List.getElem?_set_ne (Ne.symm hi1)] at hu
  by_cases hik : i = k
  · subst hik
    rw [List.getElem?_set_self (by omega)] at hu
    cases hu
    exact h.2.2 (i, pm_rn ρ v) List.mem_cons_self
  · rw [List.getElem?_set_ne (Ne.symm hik)] at hu
    refine h.2.2 (i, pm_rn ρ u) (List.mem_cons_of_mem _ (List.mem_filter.mpr ⟨pm_lv_mem.mpr ⟨u, hu, rfl⟩, ?_⟩))
    have h1 : (i == k) = false := by simp [hik]
    have h3 : (i == k + 1) = false := by simp [hi1]
    have h2 : (i + 1 == k && (pm_rn ρ u).category == 2) = false := by
      by_cases hi : i + 1 = k
      · have := pm_no_spec hno hi hu
        rw [pm_cat]
        simp [this]
      · simp [hi]
    show (!(i == k) && (!(i == k + 1) && !(i + 1 == k && (pm_rn ρ u).category == 2))) = true
    rw [h1, h2, h3]
    rfl
section PMW
variable {p : Program} {l : Launch} {e : Env} {R : Room} {s : State} {m : MethodId} {args : Array Value} {below : List Frame} {meth : Method} {c : Code} {cells slots : Nat} {Q : State → Prop}
variable {ρ : Nat → Nat} {τ : Nat → ClassId} {D : va_G} {sz : Nat} {cc : ByteArray} {i : Instr} {len pc : Nat} {pl : pm_L} {st : List Value} {w : pm_H} {cf : pm_C}
/-- from a configuration the machine comes to Q -/
def pm_K (p : Program) (l : Launch) (e : Env) (R : Room) (s : State) (m : MethodId) (args : Array Value) (below : List Frame) (meth : Method) (c : Code) (cells slots : Nat) (Q : State → Prop) (ρ : Nat → Nat) (τ : Nat → ClassId) (D : va_G) (sz : Nat) (cf : pm_C) : Prop :=
  ∀ (H : Heap) (locs : List Loc) (ls : Array Slot), pm_Sim ρ τ D sz cf.2.2.2 H → va_S (fun q => sz ≤ q) s.heap H locs → pm_lh ρ ls cf.2.1 → W p l e R s m args below meth c H locs cells slots Q (F0 m cf.1 ls (cf.2.2.1.map (pm_rn ρ)))
theorem pm_sA_ok (hx : p.tables.exec = Jvm.exec) (hb : c.code = cc) (hd : decode cc pc = .ok (i, len)) (hs : pm_sA i len pc pl st w = some cf) (k : pm_K p l e R s m args below meth c cells slots Q ρ τ D sz cf) : pm_K p l e R s m args below meth c cells slots Q ρ τ D sz (pc, pl, st, w) := by
  intro H locs ls hSim hS hl
  unfold pm_sA at hs
  split at hs
  · rename_i n v hk
    split at hs
    · rename_i hn
      subst hn
      cases hs
      have k := k H locs ls hSim hS hl
      unfold pm_kc at hk
      split at hk
      · cases hk; exact lv_iconst hx hb hd rfl k
      · cases hk; exact lv_bipush hx hb hd rfl k
      · cases hk; exact lv_sipush hx hb hd rfl k
      · cases hk; exact lv_lconst hx hb hd rfl k
      · cases hk
    · cases hs
  · cases hs
theorem pm_sB_ok (hx : p.tables.exec = Jvm.exec) (hb : c.code = cc) (hd : decode cc pc = .ok (i, len)) (hs : pm_sB i len pc pl st w = some cf) (k : pm_K p l e R s m args below meth c cells slots Q ρ τ D sz cf) : pm_K p l e R s m args below meth c cells slots Q ρ τ D sz (pc, pl, st, w) := by
  intro H locs ls hSim hS hl
  unfold pm_sB at hs
  split at hs
  · rename_i n j t hk
    split at hs
    · rename_i hn
      subst hn
      split at hs
      · rename_i v hv
        split at hs
        · rename_i ht
          cases hs
          have k := k H locs ls hSim hS hl
          have hlv := hl.2.2 j v hv
          unfold pm_kl at hk
          split at hk <;> cases hk
          · cases v <;> first | (cases ht; done) | exact lv_iload_n hx hb hd rfl hlv k
          · cases v <;> first | (cases ht; done) | exact lv_iload hx hb hd hlv k
          · cases v <;> first | (cases ht; done) | exact lv_lload_n hx hb hd rfl hlv k
          · cases v <;> first | (cases ht; done) | exact lv_lload hx hb hd hlv k
          · cases v <;> first | (cases ht; done) | exact lv_aload_n hx hb hd rfl hlv k
          · cases v <;> first | (cases ht; done) | exact lv_aload hx hb hd hlv k
        · cases hs
      · cases hs
    · cases hs
  · cases hs
theorem pm_sC_ok (hx : p.tables.exec = Jvm.exec) (hb : c.code = cc) (hd : decode cc pc = .ok (i, len)) (hs : pm_sC i len pc pl st w = some cf) (k : pm_K p l e R s m args below meth c cells slots Q ρ τ D sz cf) : pm_K p l e R s m args below meth c cells slots Q ρ τ D sz (pc, pl, st, w) := by
  intro H locs ls hSim hS hl
  unfold pm_sC at hs
  split at hs
  · rename_i n j t hk
    split at hs
    · rename_i hn
      subst hn
      split at hs
      · rename_i v r
        split at hs
        · rename_i ht
          split at hs
          · rename_i pl' hpl
            cases hs
            have hh := hl.has
            unfold pm_ks at hk
            split at hk <;> cases hk <;> cases v <;> (try (cases ht; done)) <;> simp only [pm_sto] at hpl <;> split at hpl <;> (try (cases hpl; done)) <;> rename_i hc <;> cases hpl
            · exact lv_istore_n hx hb hd rfl hh hc.1 rfl (fun ls' h => k H locs ls' hSim hS (pm_lh.set1 hc.1 hc.2 h))
            · exact lv_istore hx hb hd hh hc.1 rfl (fun ls' h => k H locs ls' hSim hS (pm_lh.set1 hc.1 hc.2 h))
            · exact lv_lstore_n hx hb hd rfl hh hc.1 rfl (fun ls' h => k H locs ls' hSim hS (pm_lh.set2 hc.1 hc.2 h))
            · exact lv_lstore hx hb hd hh hc.1 rfl (fun ls' h => k H locs ls' hSim hS (pm_lh.set2 hc.1 hc.2 h))
            · exact lv_astore_n hx hb hd rfl hh hc.1 rfl (fun ls' h => k H locs ls' hSim hS (pm_lh.set1 hc.1 hc.2 h))
            · exact lv_astore hx hb hd hh hc.1 rfl (fun ls' h => k H locs ls' hSim hS (pm_lh.set1 hc.1 hc.2 h))
          · cases hs
        · cases hs
      · cases hs
    · cases hs
  · cases hs
theorem pm_sD_ok (hx : p.tables.exec = Jvm.exec) (hb : c.code = cc) (hd : decode cc pc = .ok (i, len)) (hs : pm_sD i len pc pl st w = some cf) (k : pm_K p l e R s m args below meth c cells slots Q ρ τ D sz cf) : pm_K p l e R s m args below meth c cells slots Q ρ τ D sz (pc, pl, st, w) := by
  intro H locs ls hSim hS hl
  unfold pm_sD at hs
  split at hs
  · rename_i f hk
    split at hs
    · split at hs
      · rename_i hn
        subst hn
        cases hs
        have k := k H locs ls hSim hS hl
        unfold pm_k2 at hk
        split at hk <;> cases hk
        · exact lv_iadd hx hb hd k
        · exact lv_isub hx hb hd k
        · exact lv_imul hx hb hd k
        · exact lv_iand hx hb hd k
        · exact lv_ior hx hb hd k
        · exact lv_ishl hx hb hd k
        · exact lv_ishr hx hb hd k
        · exact lv_iushr hx hb hd rfl k
      · cases hs
    · cases hs
  · cases hs
theorem pm_sE_ok (hx : p.tables.exec = Jvm.exec) (hb : c.code = cc) (hd : decode cc pc = .ok (i, len)) (hs : pm_sE i len pc pl st w = some cf) (k : pm_K p l e R s m args below meth c cells slots Q ρ τ D sz cf) : pm_K p l e R s m args below meth c cells slots Q ρ τ D sz (pc, pl, st, w) := by
  intro H locs ls hSim hS hl
  unfold pm_sE at hs
  split at hs
  · rename_i f hk
    split at hs
    · split at hs
      · rename_i hn
        subst hn
        cases hs
        have k := k H locs ls hSim hS hl
        unfold pm_k3 at hk
        split at hk <;> cases hk
        · exact lv_ladd hx hb hd k
        · exact lv_lsub hx hb hd k
        · exact lv_lmul hx hb hd k
        · exact lv_lxor hx hb hd k
      · cases hs
    · cases hs
  · cases hs
theorem pm_sF_ok (hx : p.tables.exec = Jvm.exec) (hb : c.code = cc) (hd : decode cc pc = .ok (i, len)) (hs : pm_sF i len pc pl st w = some cf) (k : pm_K p l e R s m args below meth c cells slots Q ρ τ D sz cf) : pm_K p l e R s m args below meth c cells slots Q ρ τ D sz (pc, pl, st, w) := by
  intro H locs ls hSim hS hl
  unfold pm_sF at hs
  split at hs
  · split at hs
    · rename_i hn; subst hn; cases hs; exact lv_ineg hx hb hd (k H locs ls hSim hS hl)
    · cases hs
  · split at hs
    · rename_i hn; subst hn; cases hs; exact lv_i2l hx hb hd rfl (k H locs ls hSim hS hl)
    · cases hs
  · split at hs
    · rename_i hn; subst hn; cases hs; exact lv_l2i hx hb hd rfl (k H locs ls hSim hS hl)
    · cases hs
  · split at hs
    · rename_i hn; subst hn; cases hs; exact lv_i2b hx hb hd rfl (k H locs ls hSim hS hl)
    · cases hs
  · split at hs
    · rename_i hn; subst hn
      split at hs
      · cases hs
      · rename_i hy; cases hs; exact lv_ldiv hx hb hd hy (k H locs ls hSim hS hl)
    · cases hs
  · split at hs
    · rename_i hn; subst hn; cases hs; exact W.lcmp hx hb hd (k H locs ls hSim hS hl)
    · cases hs
  · split at hs
    · rename_i hn; obtain ⟨hn, hc⟩ := hn; subst hn; cases hs; exact lv_dup hx hb hd (by rw [pm_cat]; exact hc) (k H locs ls hSim hS hl)
    · cases hs
  · split at hs
    · rename_i hn; obtain ⟨hn, hc, hc2⟩ := hn; subst hn; cases hs; exact lv_dup2_11 hx hb hd (by rw [pm_cat]; assumption) (by rw [pm_cat]; assumption) (k H locs ls hSim hS hl)
    · cases hs
  · split at hs
    · rename_i hn; obtain ⟨hn, hc⟩ := hn; subst hn; cases hs; exact lv_pop hx hb hd (by rw [pm_cat]; exact hc) (k H locs ls hSim hS hl)
    · cases hs
  · split at hs
    · rename_i hn; subst hn
      split at hs
      · rename_i x hv
        split at hs
        · rename_i pl' hpl
          cases hs
          simp only [pm_sto] at hpl
          split at hpl
          · rename_i hc
            cases hpl
            obtain ⟨kk, hkk⟩ := List.getElem?_of_mem (pm_lv_mem.mpr ⟨_, hv, rfl⟩ : (_, pm_rn ρ (.int x)) ∈ pm_lv ρ pl)
            exact lv_iinc hx hb hd hl.has hkk rfl hc.1 rfl (fun ls' h => k H locs ls' hSim hS (pm_lh.set1 hc.1 hc.2 h))
          · cases hpl
        · cases hs
      · cases hs
    · cases hs
  · cases hs
theorem pm_tg_eq {pc : Nat} {off : Int} (h : 0 ≤ (pc : Int) + off) : (pc : Int) + off = ((pm_tg pc off : Nat) : Int) := by unfold pm_tg; omega
theorem pm_sG_ok (hx : p.tables.exec = Jvm.exec) (hb : c.code = cc) (hd : decode cc pc = .ok (i, len)) (hs : pm_sG i len pc pl st w = some cf) (k : pm_K p l e R s m args below meth c cells slots Q ρ τ D sz cf) : pm_K p l e R s m args below meth c cells slots Q ρ τ D sz (pc, pl, st, w) := by
  intro H locs ls hSim hS hl
  unfold pm_sG at hs
  split at hs
  · rename_i cn off x r
    split at hs
    · rename_i hn
      obtain ⟨hn, h0⟩ := hn
      subst hn
      cases hs
      have kt : pm_cc cn x 0 → W p l e R s m args below meth c H locs cells slots Q (F0 m (pm_tg pc off) ls (r.map (pm_rn ρ))) := fun h => by rw [if_pos h] at k; exact k H locs ls hSim hS hl
      have kf : ¬ pm_cc cn x 0 → W p l e R s m args below meth c H locs cells slots Q (F0 m (pc + 3) ls (r.map (pm_rn ρ))) := fun h => by rw [if_neg h] at k; exact k H locs ls hSim hS hl
      cases cn
      · exact lv_if_eq hx hb hd (pm_tg_eq h0) kt kf
      · exact lv_if_ne hx hb hd (pm_tg_eq h0) kt (fun h => kf (fun h2 => h2 h))
      · exact lv_if_lt hx hb hd (pm_tg_eq h0) kt kf
      · exact lv_if_ge hx hb hd (pm_tg_eq h0) kt kf
      · exact lv_if_gt hx hb hd (pm_tg_eq h0) kt kf
      · exact lv_if_le hx hb hd (pm_tg_eq h0) kt kf
    · cases hs
  · rename_i cn off y x r
    split at hs
    · rename_i hn
      obtain ⟨hn, h0⟩ := hn
      subst hn
      cases hs
      have kt : pm_cc cn x y → W p l e R s m args below meth c H locs cells slots Q (F0 m (pm_tg pc off) ls (r.map (pm_rn ρ))) := fun h => by rw [if_pos h] at k; exact k H locs ls hSim hS hl
      have kf : ¬ pm_cc cn x y → W p l e R s m args below meth c H locs cells slots Q (F0 m (pc + 3) ls (r.map (pm_rn ρ))) := fun h => by rw [if_neg h] at k; exact k H locs ls hSim hS hl
      cases cn
      · exact lv_icmp_eq hx hb hd (pm_tg_eq h0) kt kf
      · exact lv_icmp_ne hx hb hd (pm_tg_eq h0) kt (fun h => kf (fun h2 => h2 h))
      · exact lv_icmp_lt hx hb hd (pm_tg_eq h0) kt kf
      · exact lv_icmp_ge hx hb hd (pm_tg_eq h0) kt kf
      · exact lv_icmp_gt hx hb hd (pm_tg_eq h0) kt kf
      · exact lv_icmp_le hx hb hd (pm_tg_eq h0) kt kf
    · cases hs
  · split at hs
    · rename_i hn
      obtain ⟨hn, h0⟩ := hn
      subst hn
      cases hs
      exact lv_goto hx hb hd (pm_tg_eq h0) (k H locs ls hSim hS hl)
    · cases hs
  · split at hs
    · rename_i ho
      split at hs
      · rename_i h0
        cases hs
        exact lv_tableOut hx hb hd ho (pm_tg_eq h0) (k H locs ls hSim hS hl)
      · cases hs
    · rename_i ho
      split at hs
      · rename_i off hoff
        split at hs
        · rename_i h0
          cases hs
          exact lv_tableIn hx hb hd (fun h => ho (Or.inl h)) (fun h => ho (Or.inr h)) hoff (pm_tg_eq h0) (k H locs ls hSim hS hl)
        · cases hs
      · cases hs
  · split at hs
    · rename_i hn
      obtain ⟨hn, h0⟩ := hn
      cases hs
      exact lv_lookup hx hb hd hn rfl (pm_tg_eq h0) (k H locs ls hSim hS hl)
    · cases hs
  · cases hs
end PMW
