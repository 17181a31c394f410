/-! THE LAW, case by case -/
abbrev pl_0 (i : Int32) : pm_L := [some (.ref 900), some (.ref 0), some (.ref 200), some (.ref 300), some (.int i), none, none, none]
/-- what holds at a round of the loop -/
def pl_C (p : Program) (l : Launch) (s : State) (m : MethodId) (args : Array Value) (c : Code) (cells slots : Nat) (ρ : Nat → Nat) (τ : Nat → ClassId) (D : va_G) (sz : Nat) (aV : Nat → Nat) (b L : Nat) (xs : Nat → Int32) (i : Int32) : Prop :=
  p.tables.exec = Jvm.exec ∧ c.code = code ∧ c.maxLocals = 8 ∧ s.vm.findClass RL = some m.cls ∧ (∀ w ∈ pm_tb, w.before args s = true) ∧ pm_Kn ρ τ D sz aV s s.heap ∧ va_X b L xs s s.heap ∧ b < s.heap.size ∧ b < sz ∧ ρ 900 = b ∧ (∀ kv : Int, 0 ≤ kv → kv ≤ 5 → vp_in (i + Int32.ofInt kv) L) ∧ cells + 1 ≤ 1072 ∧ slots + 6 ≤ 11312 ∧ l.stackTraces = false
section PLC
variable {p : Program} {l : Launch} {s : State} {m : MethodId} {args : Array Value} {c : Code} {cells slots : Nat} {ρ : Nat → Nat} {τ : Nat → ClassId} {D : va_G} {sz : Nat} {aV : Nat → Nat} {b L : Nat} {xs : Nat → Int32} {i : Int32} 
theorem pl_C.hx (C : pl_C p l s m args c cells slots ρ τ D sz aV b L xs i) : p.tables.exec = Jvm.exec := C.1
theorem pl_C.hb (C : pl_C p l s m args c cells slots ρ τ D sz aV b L xs i) : c.code = code := C.2.1
theorem pl_C.hml (C : pl_C p l s m args c cells slots ρ τ D sz aV b L xs i) : c.maxLocals = 8 := C.2.2.1
theorem pl_C.hown (C : pl_C p l s m args c cells slots ρ τ D sz aV b L xs i) : s.vm.findClass RL = some m.cls := C.2.2.2.1
theorem pl_C.hts (C : pl_C p l s m args c cells slots ρ τ D sz aV b L xs i) : ∀ w ∈ pm_tb, w.before args s = true := C.2.2.2.2.1
theorem pl_C.hK (C : pl_C p l s m args c cells slots ρ τ D sz aV b L xs i) : pm_Kn ρ τ D sz aV s s.heap := C.2.2.2.2.2.1
theorem pl_C.hX (C : pl_C p l s m args c cells slots ρ τ D sz aV b L xs i) : va_X b L xs s s.heap := C.2.2.2.2.2.2.1
theorem pl_C.hbl (C : pl_C p l s m args c cells slots ρ τ D sz aV b L xs i) : b < s.heap.size := C.2.2.2.2.2.2.2.1
theorem pl_C.hsz (C : pl_C p l s m args c cells slots ρ τ D sz aV b L xs i) : b < sz := C.2.2.2.2.2.2.2.2.1
theorem pl_C.hρ (C : pl_C p l s m args c cells slots ρ τ D sz aV b L xs i) : ρ 900 = b := C.2.2.2.2.2.2.2.2.2.1
theorem pl_C.hin (C : pl_C p l s m args c cells slots ρ τ D sz aV b L xs i) : ∀ kv : Int, 0 ≤ kv → kv ≤ 5 → vp_in (i + Int32.ofInt kv) L := C.2.2.2.2.2.2.2.2.2.2.1
theorem pl_C.hc (C : pl_C p l s m args c cells slots ρ τ D sz aV b L xs i) : cells + 1 ≤ 1072 := C.2.2.2.2.2.2.2.2.2.2.2.1
theorem pl_C.hs (C : pl_C p l s m args c cells slots ρ τ D sz aV b L xs i) : slots + 6 ≤ 11312 := C.2.2.2.2.2.2.2.2.2.2.2.2.1
theorem pl_C.hlt (C : pl_C p l s m args c cells slots ρ τ D sz aV b L xs i) : l.stackTraces = false := C.2.2.2.2.2.2.2.2.2.2.2.2.2
end PLC
section PLW
variable {p : Program} {l : Launch} {e : Env} {s : State} {m : MethodId} {args : Array Value} {below : List Frame} {meth : Method} {c : Code} {cells slots : Nat} {Q : State → Prop}
variable {ρ : Nat → Nat} {τ : Nat → ClassId} {D : va_G} {sz : Nat} {aV : Nat → Nat} {b L : Nat} {xs : Nat → Int32} {i : Int32} {w : pm_H}
theorem pl_fg {i : Int32} {a5 a6 a7 : Option Value} {c1 s1 pc : Nat} {w : pm_H} (k : pm_K p l e room_1 s m args below meth c c1 s1 Q ρ τ D sz (pc, pl_0 i, [], w)) : pm_K p l e room_1 s m args below meth c c1 s1 Q ρ τ D sz (pc, [some (.ref 900), some (.ref 0), some (.ref 200), some (.ref 300), some (.int i), a5, a6, a7], [], w) := by
  refine pl_forget (pl' := pl_0 i) rfl (fun j v hj => ?_) k
  match j with
  | 0 => exact hj
  | 1 => exact hj
  | 2 => exact hj
  | 3 => exact hj
  | 4 => exact hj
  | 5 => cases hj
  | 6 => cases hj
  | 7 => cases hj
  | j + 8 => cases hj
theorem pn_run {x1 x2 v : Int32} (hlt : l.stackTraces = false) (hno : ¬ (ab_rok x1 x2 ∧ ¬ v < 0 ∧ ¬ 5 < v)) : px_Met l ρ τ D sz aV 77 7 103 [.ref 0, .int x1, .int x2, .int v] w := by
  by_cases h : ab_rok x1 x2
  · obtain ⟨a, b, rfl, rfl, hab, hb4⟩ := ab_rok_n h
    exact px_run2 hlt hab hb4 (fun z => hno ⟨h, z⟩)
  · exact px_77 hlt h
theorem pn_adds {y z t h n N : Nat} {fk : Int32} {B K Q F : Nat → Int32} {Y : Nat → Nat → Int32} {TT R SN : Nat → Int32} {cq : Nat → Nat} (I : pm_Iv w y z fk B t h K Q F Y n N TT R SN cq) {v x1 x2 g : Int32} (hlt : l.stackTraces = false) (hno : ¬ (ab_rok x1 x2 ∧ ¬ v < 0 ∧ v < nI N)) : px_Met l ρ τ D sz aV 76 7 103 [.ref 0, .int v, .int x1, .int x2, .int g] w := by
  obtain ⟨hd, -, -, -, -, -, hw, -⟩ := I
  by_cases hr : ab_rok x1 x2
  · obtain ⟨a, b, rfl, rfl, hab, hb4⟩ := ab_rok_n hr
    exact px_adds2 hlt hab hb4 hd.2.1 hd.2.2.2.2.2.2.1 (fun z => hno ⟨hr, z.1, by rw [← hw.hN]; exact z.2⟩)
  · exact px_76 hlt hr
theorem pl_c0 (C : pl_C p l s m args c cells slots ρ τ D sz aV b L xs i) (I : IV w) (K : ∀ w', IV w' → pm_K p l e room_1 s m args below meth c (cells + 1) (slots + 6) Q ρ τ D sz (1447, pl_0 i, [], w')) : pm_K p l e room_1 s m args below meth c cells slots Q ρ τ D sz (148, pl_0 i, [], w) := by
  obtain ⟨r, w1, w2, k1, h2, k2, I2⟩ : pm_pair w 55 87 [.ref 0, .int (xs (i + Int32.ofInt 1).toNatClampNeg), .int (xs (i + Int32.ofInt 2).toNatClampNeg), .int (xs (i + Int32.ofInt 3).toNatClampNeg), .int (xs (i + Int32.ofInt 4).toNatClampNeg), .int (xs (i + Int32.ofInt 5).toNatClampNeg)] [.ref 200, .int (xs (i + Int32.ofInt 1).toNatClampNeg), .int (xs (i + Int32.ofInt 2).toNatClampNeg), .int (xs (i + Int32.ofInt 3).toNatClampNeg), .int (xs (i + Int32.ofInt 4).toNatClampNeg), .int (xs (i + Int32.ofInt 5).toNatClampNeg)] := I_feed I
  refine pm_sB_ok C.hx C.hb dw_148 rfl ?_
  refine pl_arg (kv := 1) C.hx C.hb C.hX C.hbl C.hsz C.hρ (C.hin 1 (by decide) (by decide)) rfl dw_149 dw_150 dw_152 dw_153 dw_154 ?_
  refine pl_arg (kv := 2) C.hx C.hb C.hX C.hbl C.hsz C.hρ (C.hin 2 (by decide) (by decide)) rfl dw_155 dw_156 dw_158 dw_159 dw_160 ?_
  refine pl_arg (kv := 3) C.hx C.hb C.hX C.hbl C.hsz C.hρ (C.hin 3 (by decide) (by decide)) rfl dw_161 dw_162 dw_164 dw_165 dw_166 ?_
  refine pl_arg (kv := 4) C.hx C.hb C.hX C.hbl C.hsz C.hρ (C.hin 4 (by decide) (by decide)) rfl dw_167 dw_168 dw_170 dw_171 dw_172 ?_
  refine pl_arg (kv := 5) C.hx C.hb C.hX C.hbl C.hsz C.hρ (C.hin 5 (by decide) (by decide)) rfl dw_173 dw_174 dw_176 dw_177 dw_178 ?_
  refine pr_callV (own := RL) (M := 55) (a := 0) (as := [.int (xs (i + Int32.ofInt 1).toNatClampNeg), .int (xs (i + Int32.ofInt 2).toNatClampNeg), .int (xs (i + Int32.ofInt 3).toNatClampNeg), .int (xs (i + Int32.ofInt 4).toNatClampNeg), .int (xs (i + Int32.ofInt 5).toNatClampNeg)]) (rest := []) (r := some (.int r)) (w' := w1) C.hx C.hb C.hml C.hown C.hts C.hK (pm_contract (pm_ScOk_all l) ρ τ D sz aV pt_Y55 (Nat.le_of_ble_eq_true rfl) k1) pt_Y55 (pm_in 288 (by decide +kernel) rfl) (pm_in 289 (by decide +kernel) rfl) (pm_in 290 (by decide +kernel) rfl) ⟨RX5, TX5, 7, rfl, rfl⟩ (IV.c0 I) rfl ⟨(Nat.le_of_ble_eq_true rfl), (Nat.le_of_ble_eq_true rfl)⟩ ⟨Nat.le_trans (Nat.le_succ _) C.hc, Nat.le_trans (Nat.le_add_right _ 6) C.hs⟩ (Nat.le_of_ble_eq_true rfl) rfl dw_179 ?_
  refine pm_sB_ok C.hx C.hb dw_182 rfl ?_
  refine pl_arg (kv := 1) C.hx C.hb C.hX C.hbl C.hsz C.hρ (C.hin 1 (by decide) (by decide)) rfl dw_183 dw_184 dw_186 dw_187 dw_188 ?_
  refine pl_arg (kv := 2) C.hx C.hb C.hX C.hbl C.hsz C.hρ (C.hin 2 (by decide) (by decide)) rfl dw_189 dw_190 dw_192 dw_193 dw_194 ?_
  refine pl_arg (kv := 3) C.hx C.hb C.hX C.hbl C.hsz C.hρ (C.hin 3 (by decide) (by decide)) rfl dw_195 dw_196 dw_198 dw_199 dw_200 ?_
  refine pl_arg (kv := 4) C.hx C.hb C.hX C.hbl C.hsz C.hρ (C.hin 4 (by decide) (by decide)) rfl dw_201 dw_202 dw_204 dw_205 dw_206 ?_
  refine pl_arg (kv := 5) C.hx C.hb C.hX C.hbl C.hsz C.hρ (C.hin 5 (by decide) (by decide)) rfl dw_207 dw_208 dw_210 dw_211 dw_212 ?_
  refine pr_callV (own := RL) (M := 87) (a := 200) (as := [.int (xs (i + Int32.ofInt 1).toNatClampNeg), .int (xs (i + Int32.ofInt 2).toNatClampNeg), .int (xs (i + Int32.ofInt 3).toNatClampNeg), .int (xs (i + Int32.ofInt 4).toNatClampNeg), .int (xs (i + Int32.ofInt 5).toNatClampNeg)]) (rest := [.int r]) (r := some (.int r)) (w' := w2) C.hx C.hb C.hml C.hown C.hts C.hK (pm_contract (pm_ScOk_all l) ρ τ D sz aV pt_Y87 (Nat.le_of_ble_eq_true rfl) k2) pt_Y87 (pm_in 827 (by decide +kernel) rfl) (pm_in 828 (by decide +kernel) rfl) (pm_in 829 (by decide +kernel) rfl) ⟨RX6, TX6, 23, rfl, rfl⟩ h2 rfl ⟨(Nat.le_of_ble_eq_true rfl), (Nat.le_of_ble_eq_true rfl)⟩ ⟨Nat.le_trans (Nat.le_succ _) C.hc, Nat.le_trans (Nat.le_add_right _ 6) C.hs⟩ (Nat.le_of_ble_eq_true rfl) rfl dw_213 ?_
  exact pr_ceq C.hx C.hb dw_216 (tgt := 1447) rfl (fun _ => pr_widen (Nat.le_add_right _ _) (Nat.le_add_right _ _) (K w2 I2)) (fun z => absurd rfl z)
theorem pl_c1 (C : pl_C p l s m args c cells slots ρ τ D sz aV b L xs i) (I : IV w) (K : ∀ w', IV w' → pm_K p l e room_1 s m args below meth c (cells + 1) (slots + 6) Q ρ τ D sz (1447, pl_0 i, [], w')) : pm_K p l e room_1 s m args below meth c cells slots Q ρ τ D sz (221, pl_0 i, [], w) := by
  obtain ⟨r, w1, w2, k1, h2, k2, I2⟩ : pm_pair w 56 89 [.ref 0, .int (xs (i + Int32.ofInt 1).toNatClampNeg)] [.ref 200, .int (xs (i + Int32.ofInt 1).toNatClampNeg)] := I_end I
  refine pm_sB_ok C.hx C.hb dw_221 rfl ?_
  refine pl_arg (kv := 1) C.hx C.hb C.hX C.hbl C.hsz C.hρ (C.hin 1 (by decide) (by decide)) rfl dw_222 dw_223 dw_225 dw_226 dw_227 ?_
  refine pr_callV (own := RL) (M := 56) (a := 0) (as := [.int (xs (i + Int32.ofInt 1).toNatClampNeg)]) (rest := []) (r := some (.int r)) (w' := w1) C.hx C.hb C.hml C.hown C.hts C.hK (pm_contract (pm_ScOk_all l) ρ τ D sz aV pt_Y56 (Nat.le_of_ble_eq_true rfl) k1) pt_Y56 (pm_in 300 (by decide +kernel) rfl) (pm_in 301 (by decide +kernel) rfl) (pm_in 302 (by decide +kernel) rfl) ⟨RX5, TX5, 7, rfl, rfl⟩ (IV.c0 I) rfl ⟨(Nat.le_of_ble_eq_true rfl), (Nat.le_of_ble_eq_true rfl)⟩ ⟨Nat.le_trans (Nat.le_succ _) C.hc, Nat.le_trans (Nat.le_add_right _ 6) C.hs⟩ (Nat.le_of_ble_eq_true rfl) rfl dw_228 ?_
  refine pm_sB_ok C.hx C.hb dw_231 rfl ?_
  refine pl_arg (kv := 1) C.hx C.hb C.hX C.hbl C.hsz C.hρ (C.hin 1 (by decide) (by decide)) rfl dw_232 dw_233 dw_235 dw_236 dw_237 ?_
  refine pr_callV (own := RL) (M := 89) (a := 200) (as := [.int (xs (i + Int32.ofInt 1).toNatClampNeg)]) (rest := [.int r]) (r := some (.int r)) (w' := w2) C.hx C.hb C.hml C.hown C.hts C.hK (pm_contract (pm_ScOk_all l) ρ τ D sz aV pt_Y89 (Nat.le_of_ble_eq_true rfl) k2) pt_Y89 (pm_in 836 (by decide +kernel) rfl) (pm_in 837 (by decide +kernel) rfl) (pm_in 838 (by decide +kernel) rfl) ⟨RX6, TX6, 23, rfl, rfl⟩ h2 rfl ⟨(Nat.le_of_ble_eq_true rfl), (Nat.le_of_ble_eq_true rfl)⟩ ⟨Nat.le_trans (Nat.le_succ _) C.hc, Nat.le_trans (Nat.le_add_right _ 6) C.hs⟩ (Nat.le_of_ble_eq_true rfl) rfl dw_238 ?_
  exact pr_ceq C.hx C.hb dw_241 (tgt := 1447) rfl (fun _ => pr_widen (Nat.le_add_right _ _) (Nat.le_add_right _ _) (K w2 I2)) (fun z => absurd rfl z)
theorem pl_c2 (C : pl_C p l s m args c cells slots ρ τ D sz aV b L xs i) (I : IV w) (K : ∀ w', IV w' → pm_K p l e room_1 s m args below meth c (cells + 1) (slots + 6) Q ρ τ D sz (1447, pl_0 i, [], w')) : pm_K p l e room_1 s m args below meth c cells slots Q ρ τ D sz (246, pl_0 i, [], w) := by
  obtain ⟨r, w1, w2, k1, h2, k2, I2⟩ : pm_pair w 57 91 [.ref 0] [.ref 200] := I_text I
  refine pm_sB_ok C.hx C.hb dw_246 rfl ?_
  refine pr_callV (own := RL) (M := 57) (a := 0) (as := []) (rest := []) (r := some (.int r)) (w' := w1) C.hx C.hb C.hml C.hown C.hts C.hK (pm_contract (pm_ScOk_all l) ρ τ D sz aV pt_Y57 (Nat.le_of_ble_eq_true rfl) k1) pt_Y57 (pm_in 304 (by decide +kernel) rfl) (pm_in 305 (by decide +kernel) rfl) (pm_in 306 (by decide +kernel) rfl) ⟨RX5, TX5, 7, rfl, rfl⟩ (IV.c0 I) rfl ⟨(Nat.le_of_ble_eq_true rfl), (Nat.le_of_ble_eq_true rfl)⟩ ⟨Nat.le_trans (Nat.le_succ _) C.hc, Nat.le_trans (Nat.le_add_right _ 6) C.hs⟩ (Nat.le_of_ble_eq_true rfl) rfl dw_247 ?_
  refine pm_sB_ok C.hx C.hb dw_250 rfl ?_
  refine pr_callV (own := RL) (M := 91) (a := 200) (as := []) (rest := [.int r]) (r := some (.int r)) (w' := w2) C.hx C.hb C.hml C.hown C.hts C.hK (pm_contract (pm_ScOk_all l) ρ τ D sz aV pt_Y91 (Nat.le_of_ble_eq_true rfl) k2) pt_Y91 (pm_in 918 (by decide +kernel) rfl) (pm_in 919 (by decide +kernel) rfl) (pm_in 920 (by decide +kernel) rfl) ⟨RX6, TX6, 23, rfl, rfl⟩ h2 rfl ⟨(Nat.le_of_ble_eq_true rfl), (Nat.le_of_ble_eq_true rfl)⟩ ⟨Nat.le_trans (Nat.le_succ _) C.hc, Nat.le_trans (Nat.le_add_right _ 6) C.hs⟩ (Nat.le_of_ble_eq_true rfl) rfl dw_251 ?_
  exact pr_ceq C.hx C.hb dw_254 (tgt := 1447) rfl (fun _ => pr_widen (Nat.le_add_right _ _) (Nat.le_add_right _ _) (K w2 I2)) (fun z => absurd rfl z)
theorem pl_c3 (C : pl_C p l s m args c cells slots ρ τ D sz aV b L xs i) (I : IV w) (K : ∀ w', IV w' → pm_K p l e room_1 s m args below meth c (cells + 1) (slots + 6) Q ρ τ D sz (1447, pl_0 i, [], w')) : pm_K p l e room_1 s m args below meth c cells slots Q ρ τ D sz (259, pl_0 i, [], w) := by
  obtain ⟨r, w1, w2, k1, h2, k2, I2⟩ : pm_pair w 60 118 [.ref 0] [.ref 200] := I_fault I
  refine pm_sB_ok C.hx C.hb dw_259 rfl ?_
  refine pr_callV (own := RL) (M := 60) (a := 0) (as := []) (rest := []) (r := some (.int r)) (w' := w1) C.hx C.hb C.hml C.hown C.hts C.hK (pm_contract (pm_ScOk_all l) ρ τ D sz aV pt_Y60 (Nat.le_of_ble_eq_true rfl) k1) pt_Y60 (pm_in 484 (by decide +kernel) rfl) (pm_in 485 (by decide +kernel) rfl) (pm_in 486 (by decide +kernel) rfl) ⟨RX5, TX5, 7, rfl, rfl⟩ (IV.c0 I) rfl ⟨(Nat.le_of_ble_eq_true rfl), (Nat.le_of_ble_eq_true rfl)⟩ ⟨Nat.le_trans (Nat.le_succ _) C.hc, Nat.le_trans (Nat.le_add_right _ 6) C.hs⟩ (Nat.le_of_ble_eq_true rfl) rfl dw_260 ?_
  refine pm_sB_ok C.hx C.hb dw_263 rfl ?_
  refine pr_callV (own := RL) (M := 118) (a := 200) (as := []) (rest := [.int r]) (r := some (.int r)) (w' := w2) C.hx C.hb C.hml C.hown C.hts C.hK (pm_contract (pm_ScOk_all l) ρ τ D sz aV pt_Y118 (Nat.le_of_ble_eq_true rfl) k2) pt_Y118 (pm_in 1020 (by decide +kernel) rfl) (pm_in 1021 (by decide +kernel) rfl) (pm_in 1022 (by decide +kernel) rfl) ⟨RX6, TX6, 23, rfl, rfl⟩ h2 rfl ⟨(Nat.le_of_ble_eq_true rfl), (Nat.le_of_ble_eq_true rfl)⟩ ⟨Nat.le_trans (Nat.le_succ _) C.hc, Nat.le_trans (Nat.le_add_right _ 6) C.hs⟩ (Nat.le_of_ble_eq_true rfl) rfl dw_264 ?_
  exact pr_ceq C.hx C.hb dw_267 (tgt := 1447) rfl (fun _ => pr_widen (Nat.le_add_right _ _) (Nat.le_add_right _ _) (K w2 I2)) (fun z => absurd rfl z)
theorem pl_c4 (C : pl_C p l s m args c cells slots ρ τ D sz aV b L xs i) (I : IV w) (K : ∀ w', IV w' → pm_K p l e room_1 s m args below meth c (cells + 1) (slots + 6) Q ρ τ D sz (1447, pl_0 i, [], w')) : pm_K p l e room_1 s m args below meth c cells slots Q ρ τ D sz (272, pl_0 i, [], w) := by
  obtain ⟨r, w1, w2, k1, h2, k2, I2⟩ : pm_pair w 61 119 [.ref 0, .int (xs (i + Int32.ofInt 1).toNatClampNeg)] [.ref 200, .int (xs (i + Int32.ofInt 1).toNatClampNeg)] := I_now I
  refine pm_sB_ok C.hx C.hb dw_272 rfl ?_
  refine pl_arg (kv := 1) C.hx C.hb C.hX C.hbl C.hsz C.hρ (C.hin 1 (by decide) (by decide)) rfl dw_273 dw_274 dw_276 dw_277 dw_278 ?_
  refine pr_callV (own := RL) (M := 61) (a := 0) (as := [.int (xs (i + Int32.ofInt 1).toNatClampNeg)]) (rest := []) (r := some (.int r)) (w' := w1) C.hx C.hb C.hml C.hown C.hts C.hK (pm_contract (pm_ScOk_all l) ρ τ D sz aV pt_Y61 (Nat.le_of_ble_eq_true rfl) k1) pt_Y61 (pm_in 488 (by decide +kernel) rfl) (pm_in 489 (by decide +kernel) rfl) (pm_in 490 (by decide +kernel) rfl) ⟨RX5, TX5, 7, rfl, rfl⟩ (IV.c0 I) rfl ⟨(Nat.le_of_ble_eq_true rfl), (Nat.le_of_ble_eq_true rfl)⟩ ⟨Nat.le_trans (Nat.le_succ _) C.hc, Nat.le_trans (Nat.le_add_right _ 6) C.hs⟩ (Nat.le_of_ble_eq_true rfl) rfl dw_279 ?_
  refine pm_sB_ok C.hx C.hb dw_282 rfl ?_
  refine pl_arg (kv := 1) C.hx C.hb C.hX C.hbl C.hsz C.hρ (C.hin 1 (by decide) (by decide)) rfl dw_283 dw_284 dw_286 dw_287 dw_288 ?_
  refine pr_callV (own := RL) (M := 119) (a := 200) (as := [.int (xs (i + Int32.ofInt 1).toNatClampNeg)]) (rest := [.int r]) (r := some (.int r)) (w' := w2) C.hx C.hb C.hml C.hown C.hts C.hK (pm_contract (pm_ScOk_all l) ρ τ D sz aV pt_Y119 (Nat.le_of_ble_eq_true rfl) k2) pt_Y119 (pm_in 1024 (by decide +kernel) rfl) (pm_in 1025 (by decide +kernel) rfl) (pm_in 1026 (by decide +kernel) rfl) ⟨RX6, TX6, 23, rfl, rfl⟩ h2 rfl ⟨(Nat.le_of_ble_eq_true rfl), (Nat.le_of_ble_eq_true rfl)⟩ ⟨Nat.le_trans (Nat.le_succ _) C.hc, Nat.le_trans (Nat.le_add_right _ 6) C.hs⟩ (Nat.le_of_ble_eq_true rfl) rfl dw_289 ?_
  exact pr_ceq C.hx C.hb dw_292 (tgt := 1447) rfl (fun _ => pr_widen (Nat.le_add_right _ _) (Nat.le_add_right _ _) (K w2 I2)) (fun z => absurd rfl z)
theorem pl_c5 (C : pl_C p l s m args c cells slots ρ τ D sz aV b L xs i) (I : IV w) (K : ∀ w', IV w' → pm_K p l e room_1 s m args below meth c (cells + 1) (slots + 6) Q ρ τ D sz (1447, pl_0 i, [], w')) : pm_K p l e room_1 s m args below meth c cells slots Q ρ τ D sz (297, pl_0 i, [], w) := by
  by_cases hz : xs (i + Int32.ofInt 2).toNatClampNeg = 0
  · obtain ⟨r, w1, w2, k1, h2, k2, I2⟩ : pm_pair w 62 120 [.ref 0, .int (xs (i + Int32.ofInt 1).toNatClampNeg), .int 0] [.ref 200, .int (xs (i + Int32.ofInt 1).toNatClampNeg), .int 0] := I_shares I
    refine pm_sB_ok C.hx C.hb dw_297 rfl ?_
    refine pl_arg (kv := 1) C.hx C.hb C.hX C.hbl C.hsz C.hρ (C.hin 1 (by decide) (by decide)) rfl dw_298 dw_299 dw_301 dw_302 dw_303 ?_
    refine pl_arg (kv := 2) C.hx C.hb C.hX C.hbl C.hsz C.hρ (C.hin 2 (by decide) (by decide)) rfl dw_304 dw_305 dw_307 dw_308 dw_309 ?_
    refine pr_eq C.hx C.hb dw_310 (tgt := 317) rfl (fun _ => ?_) (fun z => absurd hz z)
    refine pm_sA_ok C.hx C.hb dw_317 rfl ?_
    refine pr_callV (own := RL) (M := 62) (a := 0) (as := [.int (xs (i + Int32.ofInt 1).toNatClampNeg), .int 0]) (rest := []) (r := some (.int r)) (w' := w1) C.hx C.hb C.hml C.hown C.hts C.hK (pm_contract (pm_ScOk_all l) ρ τ D sz aV pt_Y62 (Nat.le_of_ble_eq_true rfl) k1) pt_Y62 (pm_in 495 (by decide +kernel) rfl) (pm_in 496 (by decide +kernel) rfl) (pm_in 497 (by decide +kernel) rfl) ⟨RX5, TX5, 7, rfl, rfl⟩ (IV.c0 I) rfl ⟨(Nat.le_of_ble_eq_true rfl), (Nat.le_of_ble_eq_true rfl)⟩ ⟨Nat.le_trans (Nat.le_succ _) C.hc, Nat.le_trans (Nat.le_add_right _ 6) C.hs⟩ (Nat.le_of_ble_eq_true rfl) rfl dw_318 ?_
    refine pm_sB_ok C.hx C.hb dw_321 rfl ?_
    refine pl_arg (kv := 1) C.hx C.hb C.hX C.hbl C.hsz C.hρ (C.hin 1 (by decide) (by decide)) rfl dw_322 dw_323 dw_325 dw_326 dw_327 ?_
    refine pl_arg (kv := 2) C.hx C.hb C.hX C.hbl C.hsz C.hρ (C.hin 2 (by decide) (by decide)) rfl dw_328 dw_329 dw_331 dw_332 dw_333 ?_
    refine pr_eq C.hx C.hb dw_334 (tgt := 341) rfl (fun _ => ?_) (fun z => absurd hz z)
    refine pm_sA_ok C.hx C.hb dw_341 rfl ?_
    refine pr_callV (own := RL) (M := 120) (a := 200) (as := [.int (xs (i + Int32.ofInt 1).toNatClampNeg), .int 0]) (rest := [.int r]) (r := some (.int r)) (w' := w2) C.hx C.hb C.hml C.hown C.hts C.hK (pm_contract (pm_ScOk_all l) ρ τ D sz aV pt_Y120 (Nat.le_of_ble_eq_true rfl) k2) pt_Y120 (pm_in 1028 (by decide +kernel) rfl) (pm_in 1029 (by decide +kernel) rfl) (pm_in 1030 (by decide +kernel) rfl) ⟨RX6, TX6, 23, rfl, rfl⟩ h2 rfl ⟨(Nat.le_of_ble_eq_true rfl), (Nat.le_of_ble_eq_true rfl)⟩ ⟨Nat.le_trans (Nat.le_succ _) C.hc, Nat.le_trans (Nat.le_add_right _ 6) C.hs⟩ (Nat.le_of_ble_eq_true rfl) rfl dw_342 ?_
    exact pr_ceq C.hx C.hb dw_345 (tgt := 1447) rfl (fun _ => pr_widen (Nat.le_add_right _ _) (Nat.le_add_right _ _) (K w2 I2)) (fun z => absurd rfl z)
  · obtain ⟨r, w1, w2, k1, h2, k2, I2⟩ : pm_pair w 62 120 [.ref 0, .int (xs (i + Int32.ofInt 1).toNatClampNeg), .int 1] [.ref 200, .int (xs (i + Int32.ofInt 1).toNatClampNeg), .int 1] := I_shares I
    refine pm_sB_ok C.hx C.hb dw_297 rfl ?_
    refine pl_arg (kv := 1) C.hx C.hb C.hX C.hbl C.hsz C.hρ (C.hin 1 (by decide) (by decide)) rfl dw_298 dw_299 dw_301 dw_302 dw_303 ?_
    refine pl_arg (kv := 2) C.hx C.hb C.hX C.hbl C.hsz C.hρ (C.hin 2 (by decide) (by decide)) rfl dw_304 dw_305 dw_307 dw_308 dw_309 ?_
    refine pr_eq C.hx C.hb dw_310 (tgt := 317) rfl (fun z => absurd z hz) (fun _ => ?_)
    refine pm_sA_ok C.hx C.hb dw_313 rfl ?_
    refine pr_goto C.hx C.hb dw_314 (tgt := 318) rfl ?_
    refine pr_callV (own := RL) (M := 62) (a := 0) (as := [.int (xs (i + Int32.ofInt 1).toNatClampNeg), .int 1]) (rest := []) (r := some (.int r)) (w' := w1) C.hx C.hb C.hml C.hown C.hts C.hK (pm_contract (pm_ScOk_all l) ρ τ D sz aV pt_Y62 (Nat.le_of_ble_eq_true rfl) k1) pt_Y62 (pm_in 495 (by decide +kernel) rfl) (pm_in 496 (by decide +kernel) rfl) (pm_in 497 (by decide +kernel) rfl) ⟨RX5, TX5, 7, rfl, rfl⟩ (IV.c0 I) rfl ⟨(Nat.le_of_ble_eq_true rfl), (Nat.le_of_ble_eq_true rfl)⟩ ⟨Nat.le_trans (Nat.le_succ _) C.hc, Nat.le_trans (Nat.le_add_right _ 6) C.hs⟩ (Nat.le_of_ble_eq_true rfl) rfl dw_318 ?_
    refine pm_sB_ok C.hx C.hb dw_321 rfl ?_
    refine pl_arg (kv := 1) C.hx C.hb C.hX C.hbl C.hsz C.hρ (C.hin 1 (by decide) (by decide)) rfl dw_322 dw_323 dw_325 dw_326 dw_327 ?_
    refine pl_arg (kv := 2) C.hx C.hb C.hX C.hbl C.hsz C.hρ (C.hin 2 (by decide) (by decide)) rfl dw_328 dw_329 dw_331 dw_332 dw_333 ?_
    refine pr_eq C.hx C.hb dw_334 (tgt := 341) rfl (fun z => absurd z hz) (fun _ => ?_)
    refine pm_sA_ok C.hx C.hb dw_337 rfl ?_
    refine pr_goto C.hx C.hb dw_338 (tgt := 342) rfl ?_
    refine pr_callV (own := RL) (M := 120) (a := 200) (as := [.int (xs (i + Int32.ofInt 1).toNatClampNeg), .int 1]) (rest := [.int r]) (r := some (.int r)) (w' := w2) C.hx C.hb C.hml C.hown C.hts C.hK (pm_contract (pm_ScOk_all l) ρ τ D sz aV pt_Y120 (Nat.le_of_ble_eq_true rfl) k2) pt_Y120 (pm_in 1028 (by decide +kernel) rfl) (pm_in 1029 (by decide +kernel) rfl) (pm_in 1030 (by decide +kernel) rfl) ⟨RX6, TX6, 23, rfl, rfl⟩ h2 rfl ⟨(Nat.le_of_ble_eq_true rfl), (Nat.le_of_ble_eq_true rfl)⟩ ⟨Nat.le_trans (Nat.le_succ _) C.hc, Nat.le_trans (Nat.le_add_right _ 6) C.hs⟩ (Nat.le_of_ble_eq_true rfl) rfl dw_342 ?_
    exact pr_ceq C.hx C.hb dw_345 (tgt := 1447) rfl (fun _ => pr_widen (Nat.le_add_right _ _) (Nat.le_add_right _ _) (K w2 I2)) (fun z => absurd rfl z)
theorem pl_c6 (C : pl_C p l s m args c cells slots ρ τ D sz aV b L xs i) (I : IV w) (K : ∀ w', IV w' → pm_K p l e room_1 s m args below meth c (cells + 1) (slots + 6) Q ρ τ D sz (1447, pl_0 i, [], w')) : pm_K p l e room_1 s m args below meth c cells slots Q ρ τ D sz (350, pl_0 i, [], w) := by
  by_cases hc : ¬ xs (i + Int32.ofInt 1).toNatClampNeg < 0 ∧ xs (i + Int32.ofInt 1).toNatClampNeg < 4 ∧ (xs (i + Int32.ofInt 2).toNatClampNeg = 0 ∨ xs (i + Int32.ofInt 2).toNatClampNeg = 1)
  · obtain ⟨r, w1, k1, ⟨o0, ho⟩, k2⟩ : pm_okL w 73 124 [.ref 0, .int (xs (i + Int32.ofInt 1).toNatClampNeg), .int (xs (i + Int32.ofInt 2).toNatClampNeg)] [.ref 200, .int (xs (i + Int32.ofInt 1).toNatClampNeg), .int (xs (i + Int32.ofInt 2).toNatClampNeg)] := (I_quarter I).2 hc
    obtain ⟨x, hx9⟩ := pl_int rfl k1
    cases hx9
    obtain ⟨g1, w2, k3, g2, k4, g3, I2⟩ := k2 (vp_updL o0 0 x.toInt64)
    refine pm_sB_ok C.hx C.hb dw_350 rfl ?_
    refine pl_arg (kv := 1) C.hx C.hb C.hX C.hbl C.hsz C.hρ (C.hin 1 (by decide) (by decide)) rfl dw_351 dw_352 dw_354 dw_355 dw_356 ?_
    refine pl_arg (kv := 2) C.hx C.hb C.hX C.hbl C.hsz C.hρ (C.hin 2 (by decide) (by decide)) rfl dw_357 dw_358 dw_360 dw_361 dw_362 ?_
    refine pm_sB_ok C.hx C.hb dw_363 rfl ?_
    refine pl_help (n := 4) (av := [.ref 0, .int (xs (i + Int32.ofInt 1).toNatClampNeg), .int (xs (i + Int32.ofInt 2).toNatClampNeg), .ref 300]) (rest := []) (w' := (pm_up3 w1 (vp_updL o0 0 x.toInt64))) C.hx C.hb C.hml C.hown C.hts C.hK (ph_ok0 k1 (IV.c0 I) ho) (pm_in 585 (by decide +kernel) rfl) (pm_in 583 (by decide +kernel) rfl) (pm_in 584 (by decide +kernel) rfl) (pm_in 61 (by decide +kernel) rfl) (by decide +kernel) rfl ⟨(Nat.le_of_ble_eq_true rfl), (Nat.le_of_ble_eq_true rfl)⟩ ⟨C.hc, C.hs⟩ (Nat.le_of_ble_eq_true rfl) rfl dw_364 ?_
    refine pm_sC_ok C.hx C.hb dw_367 rfl ?_
    refine pm_sB_ok C.hx C.hb dw_369 rfl ?_
    refine pl_arg (kv := 1) C.hx C.hb C.hX C.hbl C.hsz C.hρ (C.hin 1 (by decide) (by decide)) rfl dw_370 dw_371 dw_373 dw_374 dw_375 ?_
    refine pl_arg (kv := 2) C.hx C.hb C.hX C.hbl C.hsz C.hρ (C.hin 2 (by decide) (by decide)) rfl dw_376 dw_377 dw_379 dw_380 dw_381 ?_
    refine pr_callV (own := RL) (M := 124) (a := 200) (as := [.int (xs (i + Int32.ofInt 1).toNatClampNeg), .int (xs (i + Int32.ofInt 2).toNatClampNeg)]) (rest := []) (r := some (.int x)) (w' := w2) C.hx C.hb C.hml C.hown C.hts C.hK (pm_contract (pm_ScOk_all l) ρ τ D sz aV pt_Y124 (Nat.le_of_ble_eq_true rfl) k3) pt_Y124 (pm_in 1043 (by decide +kernel) rfl) (pm_in 1044 (by decide +kernel) rfl) (pm_in 1045 (by decide +kernel) rfl) ⟨RX6, TX6, 23, rfl, rfl⟩ g1 rfl ⟨(Nat.le_of_ble_eq_true rfl), (Nat.le_of_ble_eq_true rfl)⟩ ⟨C.hc, C.hs⟩ (Nat.le_of_ble_eq_true rfl) rfl dw_382 ?_
    refine pm_sC_ok C.hx C.hb dw_385 rfl ?_
    refine pm_sB_ok C.hx C.hb dw_387 rfl ?_
    refine pr_callV (own := RL) (M := 86) (a := 200) (as := []) (rest := []) (r := some (.int 0)) (w' := w2) C.hx C.hb C.hml C.hown C.hts C.hK (pm_contract (pm_ScOk_all l) ρ τ D sz aV pt_Y86 (Nat.le_of_ble_eq_true rfl) k4) pt_Y86 (pm_in 823 (by decide +kernel) rfl) (pm_in 824 (by decide +kernel) rfl) (pm_in 825 (by decide +kernel) rfl) ⟨RX6, TX6, 23, rfl, rfl⟩ g2 rfl ⟨(Nat.le_of_ble_eq_true rfl), (Nat.le_of_ble_eq_true rfl)⟩ ⟨C.hc, C.hs⟩ (Nat.le_of_ble_eq_true rfl) rfl dw_388 ?_
    refine pm_sB_ok C.hx C.hb dw_391 rfl ?_
    refine pr_ceq C.hx C.hb dw_393 (tgt := 398) rfl (fun _ => ?_) (fun z => absurd rfl z)
    refine pm_sB_ok C.hx C.hb dw_398 rfl ?_
    refine pr_ne C.hx C.hb dw_400 (tgt := 415) rfl (fun z => absurd rfl z) (fun _ => ?_)
    refine pm_sB_ok C.hx C.hb dw_403 rfl ?_
    refine pm_sA_ok C.hx C.hb dw_404 rfl ?_
    refine pm_lald (v := .long (x.toInt64)) C.hx C.hb C.hK (by rw [g3]; rfl) dw_405 ?_
    refine pm_sB_ok C.hx C.hb dw_406 rfl ?_
    refine pm_sF_ok C.hx C.hb dw_408 rfl ?_
    refine pm_sF_ok C.hx C.hb dw_409 rfl ?_
    exact pr_eq C.hx C.hb dw_410 (tgt := 415) rfl (fun _ => pr_goto C.hx C.hb dw_415 (tgt := 1447) rfl (pl_fg (K w2 I2))) (fun z => absurd (pl_cmp _) z)
  · obtain ⟨g1, r, w2, k3, g2, k4, I2⟩ : pm_noL w 124 [.ref 200, .int (xs (i + Int32.ofInt 1).toNatClampNeg), .int (xs (i + Int32.ofInt 2).toNatClampNeg)] := (I_quarter I).1 hc
    obtain ⟨x, hx9⟩ := pl_int rfl k3
    cases hx9
    refine pm_sB_ok C.hx C.hb dw_350 rfl ?_
    refine pl_arg (kv := 1) C.hx C.hb C.hX C.hbl C.hsz C.hρ (C.hin 1 (by decide) (by decide)) rfl dw_351 dw_352 dw_354 dw_355 dw_356 ?_
    refine pl_arg (kv := 2) C.hx C.hb C.hX C.hbl C.hsz C.hρ (C.hin 2 (by decide) (by decide)) rfl dw_357 dw_358 dw_360 dw_361 dw_362 ?_
    refine pm_sB_ok C.hx C.hb dw_363 rfl ?_
    refine pl_help (n := 4) (av := [.ref 0, .int (xs (i + Int32.ofInt 1).toNatClampNeg), .int (xs (i + Int32.ofInt 2).toNatClampNeg), .ref 300]) (rest := []) (w' := w) C.hx C.hb C.hml C.hown C.hts C.hK (ph_no0 (px_quarter C.hlt hc) (IV.c0 I)) (pm_in 585 (by decide +kernel) rfl) (pm_in 583 (by decide +kernel) rfl) (pm_in 584 (by decide +kernel) rfl) (pm_in 61 (by decide +kernel) rfl) (by decide +kernel) rfl ⟨(Nat.le_of_ble_eq_true rfl), (Nat.le_of_ble_eq_true rfl)⟩ ⟨C.hc, C.hs⟩ (Nat.le_of_ble_eq_true rfl) rfl dw_364 ?_
    refine pm_sC_ok C.hx C.hb dw_367 rfl ?_
    refine pm_sB_ok C.hx C.hb dw_369 rfl ?_
    refine pl_arg (kv := 1) C.hx C.hb C.hX C.hbl C.hsz C.hρ (C.hin 1 (by decide) (by decide)) rfl dw_370 dw_371 dw_373 dw_374 dw_375 ?_
    refine pl_arg (kv := 2) C.hx C.hb C.hX C.hbl C.hsz C.hρ (C.hin 2 (by decide) (by decide)) rfl dw_376 dw_377 dw_379 dw_380 dw_381 ?_
    refine pr_callV (own := RL) (M := 124) (a := 200) (as := [.int (xs (i + Int32.ofInt 1).toNatClampNeg), .int (xs (i + Int32.ofInt 2).toNatClampNeg)]) (rest := []) (r := some (.int x)) (w' := w2) C.hx C.hb C.hml C.hown C.hts C.hK (pm_contract (pm_ScOk_all l) ρ τ D sz aV pt_Y124 (Nat.le_of_ble_eq_true rfl) k3) pt_Y124 (pm_in 1043 (by decide +kernel) rfl) (pm_in 1044 (by decide +kernel) rfl) (pm_in 1045 (by decide +kernel) rfl) ⟨RX6, TX6, 23, rfl, rfl⟩ g1 rfl ⟨(Nat.le_of_ble_eq_true rfl), (Nat.le_of_ble_eq_true rfl)⟩ ⟨C.hc, C.hs⟩ (Nat.le_of_ble_eq_true rfl) rfl dw_382 ?_
    refine pm_sC_ok C.hx C.hb dw_385 rfl ?_
    refine pm_sB_ok C.hx C.hb dw_387 rfl ?_
    refine pr_callV (own := RL) (M := 86) (a := 200) (as := []) (rest := []) (r := some (.int 1)) (w' := w2) C.hx C.hb C.hml C.hown C.hts C.hK (pm_contract (pm_ScOk_all l) ρ τ D sz aV pt_Y86 (Nat.le_of_ble_eq_true rfl) k4) pt_Y86 (pm_in 823 (by decide +kernel) rfl) (pm_in 824 (by decide +kernel) rfl) (pm_in 825 (by decide +kernel) rfl) ⟨RX6, TX6, 23, rfl, rfl⟩ g2 rfl ⟨(Nat.le_of_ble_eq_true rfl), (Nat.le_of_ble_eq_true rfl)⟩ ⟨C.hc, C.hs⟩ (Nat.le_of_ble_eq_true rfl) rfl dw_388 ?_
    refine pm_sB_ok C.hx C.hb dw_391 rfl ?_
    refine pr_ceq C.hx C.hb dw_393 (tgt := 398) rfl (fun _ => ?_) (fun z => absurd rfl z)
    refine pm_sB_ok C.hx C.hb dw_398 rfl ?_
    exact pr_ne C.hx C.hb dw_400 (tgt := 415) rfl (fun _ => pr_goto C.hx C.hb dw_415 (tgt := 1447) rfl (pl_fg (K w2 I2))) (fun z => absurd z (by decide))
theorem pl_c7 (C : pl_C p l s m args c cells slots ρ τ D sz aV b L xs i) (I : IV w) (K : ∀ w', IV w' → pm_K p l e room_1 s m args below meth c (cells + 1) (slots + 6) Q ρ τ D sz (1447, pl_0 i, [], w')) : pm_K p l e room_1 s m args below meth c cells slots Q ρ τ D sz (418, pl_0 i, [], w) := by
  obtain ⟨r, w1, w2, k1, h2, k2, I2⟩ : pm_pair w 64 127 [.ref 0, .int (xs (i + Int32.ofInt 1).toNatClampNeg), .int (xs (i + Int32.ofInt 2).toNatClampNeg)] [.ref 200, .int (xs (i + Int32.ofInt 1).toNatClampNeg), .int (xs (i + Int32.ofInt 2).toNatClampNeg)] := I_event I
  refine pm_sB_ok C.hx C.hb dw_418 rfl ?_
  refine pl_arg (kv := 1) C.hx C.hb C.hX C.hbl C.hsz C.hρ (C.hin 1 (by decide) (by decide)) rfl dw_419 dw_420 dw_422 dw_423 dw_424 ?_
  refine pl_arg (kv := 2) C.hx C.hb C.hX C.hbl C.hsz C.hρ (C.hin 2 (by decide) (by decide)) rfl dw_425 dw_426 dw_428 dw_429 dw_430 ?_
  refine pr_callV (own := RL) (M := 64) (a := 0) (as := [.int (xs (i + Int32.ofInt 1).toNatClampNeg), .int (xs (i + Int32.ofInt 2).toNatClampNeg)]) (rest := []) (r := some (.int r)) (w' := w1) C.hx C.hb C.hml C.hown C.hts C.hK (pm_contract (pm_ScOk_all l) ρ τ D sz aV pt_Y64 (Nat.le_of_ble_eq_true rfl) k1) pt_Y64 (pm_in 510 (by decide +kernel) rfl) (pm_in 511 (by decide +kernel) rfl) (pm_in 512 (by decide +kernel) rfl) ⟨RX5, TX5, 7, rfl, rfl⟩ (IV.c0 I) rfl ⟨(Nat.le_of_ble_eq_true rfl), (Nat.le_of_ble_eq_true rfl)⟩ ⟨Nat.le_trans (Nat.le_succ _) C.hc, Nat.le_trans (Nat.le_add_right _ 6) C.hs⟩ (Nat.le_of_ble_eq_true rfl) rfl dw_431 ?_
  refine pm_sB_ok C.hx C.hb dw_434 rfl ?_
  refine pl_arg (kv := 1) C.hx C.hb C.hX C.hbl C.hsz C.hρ (C.hin 1 (by decide) (by decide)) rfl dw_435 dw_436 dw_438 dw_439 dw_440 ?_
  refine pl_arg (kv := 2) C.hx C.hb C.hX C.hbl C.hsz C.hρ (C.hin 2 (by decide) (by decide)) rfl dw_441 dw_442 dw_444 dw_445 dw_446 ?_
  refine pr_callV (own := RL) (M := 127) (a := 200) (as := [.int (xs (i + Int32.ofInt 1).toNatClampNeg), .int (xs (i + Int32.ofInt 2).toNatClampNeg)]) (rest := [.int r]) (r := some (.int r)) (w' := w2) C.hx C.hb C.hml C.hown C.hts C.hK (pm_contract (pm_ScOk_all l) ρ τ D sz aV pt_Y127 (Nat.le_of_ble_eq_true rfl) k2) pt_Y127 (pm_in 1054 (by decide +kernel) rfl) (pm_in 1055 (by decide +kernel) rfl) (pm_in 1056 (by decide +kernel) rfl) ⟨RX6, TX6, 23, rfl, rfl⟩ h2 rfl ⟨(Nat.le_of_ble_eq_true rfl), (Nat.le_of_ble_eq_true rfl)⟩ ⟨Nat.le_trans (Nat.le_succ _) C.hc, Nat.le_trans (Nat.le_add_right _ 6) C.hs⟩ (Nat.le_of_ble_eq_true rfl) rfl dw_447 ?_
  exact pr_ceq C.hx C.hb dw_450 (tgt := 1447) rfl (fun _ => pr_widen (Nat.le_add_right _ _) (Nat.le_add_right _ _) (K w2 I2)) (fun z => absurd rfl z)
theorem pl_c8 (C : pl_C p l s m args c cells slots ρ τ D sz aV b L xs i) (I : IV w) (K : ∀ w', IV w' → pm_K p l e room_1 s m args below meth c (cells + 1) (slots + 6) Q ρ τ D sz (1447, pl_0 i, [], w')) : pm_K p l e room_1 s m args below meth c cells slots Q ρ τ D sz (455, pl_0 i, [], w) := by
  obtain ⟨r, w1, w2, k1, h2, k2, I2⟩ : pm_pair w 65 128 [.ref 0, .int (xs (i + Int32.ofInt 1).toNatClampNeg), .int (xs (i + Int32.ofInt 2).toNatClampNeg)] [.ref 200, .int (xs (i + Int32.ofInt 1).toNatClampNeg), .int (xs (i + Int32.ofInt 2).toNatClampNeg)] := I_instrument I
  refine pm_sB_ok C.hx C.hb dw_455 rfl ?_
  refine pl_arg (kv := 1) C.hx C.hb C.hX C.hbl C.hsz C.hρ (C.hin 1 (by decide) (by decide)) rfl dw_456 dw_457 dw_459 dw_460 dw_461 ?_
  refine pl_arg (kv := 2) C.hx C.hb C.hX C.hbl C.hsz C.hρ (C.hin 2 (by decide) (by decide)) rfl dw_462 dw_463 dw_465 dw_466 dw_467 ?_
  refine pr_callV (own := RL) (M := 65) (a := 0) (as := [.int (xs (i + Int32.ofInt 1).toNatClampNeg), .int (xs (i + Int32.ofInt 2).toNatClampNeg)]) (rest := []) (r := some (.int r)) (w' := w1) C.hx C.hb C.hml C.hown C.hts C.hK (pm_contract (pm_ScOk_all l) ρ τ D sz aV pt_Y65 (Nat.le_of_ble_eq_true rfl) k1) pt_Y65 (pm_in 514 (by decide +kernel) rfl) (pm_in 515 (by decide +kernel) rfl) (pm_in 516 (by decide +kernel) rfl) ⟨RX5, TX5, 7, rfl, rfl⟩ (IV.c0 I) rfl ⟨(Nat.le_of_ble_eq_true rfl), (Nat.le_of_ble_eq_true rfl)⟩ ⟨Nat.le_trans (Nat.le_succ _) C.hc, Nat.le_trans (Nat.le_add_right _ 6) C.hs⟩ (Nat.le_of_ble_eq_true rfl) rfl dw_468 ?_
  refine pm_sB_ok C.hx C.hb dw_471 rfl ?_
  refine pl_arg (kv := 1) C.hx C.hb C.hX C.hbl C.hsz C.hρ (C.hin 1 (by decide) (by decide)) rfl dw_472 dw_473 dw_475 dw_476 dw_477 ?_
  refine pl_arg (kv := 2) C.hx C.hb C.hX C.hbl C.hsz C.hρ (C.hin 2 (by decide) (by decide)) rfl dw_478 dw_479 dw_481 dw_482 dw_483 ?_
  refine pr_callV (own := RL) (M := 128) (a := 200) (as := [.int (xs (i + Int32.ofInt 1).toNatClampNeg), .int (xs (i + Int32.ofInt 2).toNatClampNeg)]) (rest := [.int r]) (r := some (.int r)) (w' := w2) C.hx C.hb C.hml C.hown C.hts C.hK (pm_contract (pm_ScOk_all l) ρ τ D sz aV pt_Y128 (Nat.le_of_ble_eq_true rfl) k2) pt_Y128 (pm_in 1058 (by decide +kernel) rfl) (pm_in 1059 (by decide +kernel) rfl) (pm_in 1060 (by decide +kernel) rfl) ⟨RX6, TX6, 23, rfl, rfl⟩ h2 rfl ⟨(Nat.le_of_ble_eq_true rfl), (Nat.le_of_ble_eq_true rfl)⟩ ⟨Nat.le_trans (Nat.le_succ _) C.hc, Nat.le_trans (Nat.le_add_right _ 6) C.hs⟩ (Nat.le_of_ble_eq_true rfl) rfl dw_484 ?_
  exact pr_ceq C.hx C.hb dw_487 (tgt := 1447) rfl (fun _ => pr_widen (Nat.le_add_right _ _) (Nat.le_add_right _ _) (K w2 I2)) (fun z => absurd rfl z)
theorem pl_c9 (C : pl_C p l s m args c cells slots ρ τ D sz aV b L xs i) (I : IV w) (K : ∀ w', IV w' → pm_K p l e room_1 s m args below meth c (cells + 1) (slots + 6) Q ρ τ D sz (1447, pl_0 i, [], w')) : pm_K p l e room_1 s m args below meth c cells slots Q ρ τ D sz (492, pl_0 i, [], w) := by
  by_cases hc : ab_rok (xs (i + Int32.ofInt 1).toNatClampNeg) (xs (i + Int32.ofInt 2).toNatClampNeg)
  · obtain ⟨r, w1, k1, ⟨o0, ho⟩, k2⟩ : pm_okL w 74 132 [.ref 0, .int (xs (i + Int32.ofInt 1).toNatClampNeg), .int (xs (i + Int32.ofInt 2).toNatClampNeg)] [.ref 200, .int (xs (i + Int32.ofInt 1).toNatClampNeg), .int (xs (i + Int32.ofInt 2).toNatClampNeg)] := (I_weight I).2 hc
    obtain ⟨x, hx9⟩ := pl_long rfl k1
    cases hx9
    obtain ⟨g1, w2, k3, g2, k4, g3, I2⟩ := k2 (vp_updL o0 0 x)
    refine pm_sB_ok C.hx C.hb dw_492 rfl ?_
    refine pl_arg (kv := 1) C.hx C.hb C.hX C.hbl C.hsz C.hρ (C.hin 1 (by decide) (by decide)) rfl dw_493 dw_494 dw_496 dw_497 dw_498 ?_
    refine pl_arg (kv := 2) C.hx C.hb C.hX C.hbl C.hsz C.hρ (C.hin 2 (by decide) (by decide)) rfl dw_499 dw_500 dw_502 dw_503 dw_504 ?_
    refine pm_sB_ok C.hx C.hb dw_505 rfl ?_
    refine pl_help (n := 4) (av := [.ref 0, .int (xs (i + Int32.ofInt 1).toNatClampNeg), .int (xs (i + Int32.ofInt 2).toNatClampNeg), .ref 300]) (rest := []) (w' := (pm_up3 w1 (vp_updL o0 0 x))) C.hx C.hb C.hml C.hown C.hts C.hK (ph_ok1 k1 (IV.c0 I) ho) (pm_in 659 (by decide +kernel) rfl) (pm_in 657 (by decide +kernel) rfl) (pm_in 658 (by decide +kernel) rfl) (pm_in 61 (by decide +kernel) rfl) (by decide +kernel) rfl ⟨(Nat.le_of_ble_eq_true rfl), (Nat.le_of_ble_eq_true rfl)⟩ ⟨C.hc, C.hs⟩ (Nat.le_of_ble_eq_true rfl) rfl dw_506 ?_
    refine pm_sC_ok C.hx C.hb dw_509 rfl ?_
    refine pm_sB_ok C.hx C.hb dw_511 rfl ?_
    refine pl_arg (kv := 1) C.hx C.hb C.hX C.hbl C.hsz C.hρ (C.hin 1 (by decide) (by decide)) rfl dw_512 dw_513 dw_515 dw_516 dw_517 ?_
    refine pl_arg (kv := 2) C.hx C.hb C.hX C.hbl C.hsz C.hρ (C.hin 2 (by decide) (by decide)) rfl dw_518 dw_519 dw_521 dw_522 dw_523 ?_
    refine pr_callV (own := RL) (M := 132) (a := 200) (as := [.int (xs (i + Int32.ofInt 1).toNatClampNeg), .int (xs (i + Int32.ofInt 2).toNatClampNeg)]) (rest := []) (r := some (.long x)) (w' := w2) C.hx C.hb C.hml C.hown C.hts C.hK (pm_contract (pm_ScOk_all l) ρ τ D sz aV pt_Y132 (Nat.le_of_ble_eq_true rfl) k3) pt_Y132 (pm_in 1074 (by decide +kernel) rfl) (pm_in 1075 (by decide +kernel) rfl) (pm_in 1076 (by decide +kernel) rfl) ⟨RX6, TX6, 23, rfl, rfl⟩ g1 rfl ⟨(Nat.le_of_ble_eq_true rfl), (Nat.le_of_ble_eq_true rfl)⟩ ⟨C.hc, C.hs⟩ (Nat.le_of_ble_eq_true rfl) rfl dw_524 ?_
    refine pm_sC_ok C.hx C.hb dw_527 rfl ?_
    refine pm_sB_ok C.hx C.hb dw_529 rfl ?_
    refine pr_callV (own := RL) (M := 86) (a := 200) (as := []) (rest := []) (r := some (.int 0)) (w' := w2) C.hx C.hb C.hml C.hown C.hts C.hK (pm_contract (pm_ScOk_all l) ρ τ D sz aV pt_Y86 (Nat.le_of_ble_eq_true rfl) k4) pt_Y86 (pm_in 823 (by decide +kernel) rfl) (pm_in 824 (by decide +kernel) rfl) (pm_in 825 (by decide +kernel) rfl) ⟨RX6, TX6, 23, rfl, rfl⟩ g2 rfl ⟨(Nat.le_of_ble_eq_true rfl), (Nat.le_of_ble_eq_true rfl)⟩ ⟨C.hc, C.hs⟩ (Nat.le_of_ble_eq_true rfl) rfl dw_530 ?_
    refine pm_sB_ok C.hx C.hb dw_533 rfl ?_
    refine pr_ceq C.hx C.hb dw_535 (tgt := 540) rfl (fun _ => ?_) (fun z => absurd rfl z)
    refine pm_sB_ok C.hx C.hb dw_540 rfl ?_
    refine pr_ne C.hx C.hb dw_542 (tgt := 556) rfl (fun z => absurd rfl z) (fun _ => ?_)
    refine pm_sB_ok C.hx C.hb dw_545 rfl ?_
    refine pm_sA_ok C.hx C.hb dw_546 rfl ?_
    refine pm_lald (v := .long (x)) C.hx C.hb C.hK (by rw [g3]; rfl) dw_547 ?_
    refine pm_sB_ok C.hx C.hb dw_548 rfl ?_
    refine pm_sF_ok C.hx C.hb dw_550 rfl ?_
    exact pr_eq C.hx C.hb dw_551 (tgt := 556) rfl (fun _ => pr_goto C.hx C.hb dw_556 (tgt := 1447) rfl (pl_fg (K w2 I2))) (fun z => absurd (pl_cmp _) z)
  · obtain ⟨g1, r, w2, k3, g2, k4, I2⟩ : pm_noL w 132 [.ref 200, .int (xs (i + Int32.ofInt 1).toNatClampNeg), .int (xs (i + Int32.ofInt 2).toNatClampNeg)] := (I_weight I).1 hc
    obtain ⟨x, hx9⟩ := pl_long rfl k3
    cases hx9
    refine pm_sB_ok C.hx C.hb dw_492 rfl ?_
    refine pl_arg (kv := 1) C.hx C.hb C.hX C.hbl C.hsz C.hρ (C.hin 1 (by decide) (by decide)) rfl dw_493 dw_494 dw_496 dw_497 dw_498 ?_
    refine pl_arg (kv := 2) C.hx C.hb C.hX C.hbl C.hsz C.hρ (C.hin 2 (by decide) (by decide)) rfl dw_499 dw_500 dw_502 dw_503 dw_504 ?_
    refine pm_sB_ok C.hx C.hb dw_505 rfl ?_
    refine pl_help (n := 4) (av := [.ref 0, .int (xs (i + Int32.ofInt 1).toNatClampNeg), .int (xs (i + Int32.ofInt 2).toNatClampNeg), .ref 300]) (rest := []) (w' := w) C.hx C.hb C.hml C.hown C.hts C.hK (ph_no1 (px_74 C.hlt hc) (IV.c0 I)) (pm_in 659 (by decide +kernel) rfl) (pm_in 657 (by decide +kernel) rfl) (pm_in 658 (by decide +kernel) rfl) (pm_in 61 (by decide +kernel) rfl) (by decide +kernel) rfl ⟨(Nat.le_of_ble_eq_true rfl), (Nat.le_of_ble_eq_true rfl)⟩ ⟨C.hc, C.hs⟩ (Nat.le_of_ble_eq_true rfl) rfl dw_506 ?_
    refine pm_sC_ok C.hx C.hb dw_509 rfl ?_
    refine pm_sB_ok C.hx C.hb dw_511 rfl ?_
    refine pl_arg (kv := 1) C.hx C.hb C.hX C.hbl C.hsz C.hρ (C.hin 1 (by decide) (by decide)) rfl dw_512 dw_513 dw_515 dw_516 dw_517 ?_
    refine pl_arg (kv := 2) C.hx C.hb C.hX C.hbl C.hsz C.hρ (C.hin 2 (by decide) (by decide)) rfl dw_518 dw_519 dw_521 dw_522 dw_523 ?_
    refine pr_callV (own := RL) (M := 132) (a := 200) (as := [.int (xs (i + Int32.ofInt 1).toNatClampNeg), .int (xs (i + Int32.ofInt 2).toNatClampNeg)]) (rest := []) (r := some (.long x)) (w' := w2) C.hx C.hb C.hml C.hown C.hts C.hK (pm_contract (pm_ScOk_all l) ρ τ D sz aV pt_Y132 (Nat.le_of_ble_eq_true rfl) k3) pt_Y132 (pm_in 1074 (by decide +kernel) rfl) (pm_in 1075 (by decide +kernel) rfl) (pm_in 1076 (by decide +kernel) rfl) ⟨RX6, TX6, 23, rfl, rfl⟩ g1 rfl ⟨(Nat.le_of_ble_eq_true rfl), (Nat.le_of_ble_eq_true rfl)⟩ ⟨C.hc, C.hs⟩ (Nat.le_of_ble_eq_true rfl) rfl dw_524 ?_
    refine pm_sC_ok C.hx C.hb dw_527 rfl ?_
    refine pm_sB_ok C.hx C.hb dw_529 rfl ?_
    refine pr_callV (own := RL) (M := 86) (a := 200) (as := []) (rest := []) (r := some (.int 1)) (w' := w2) C.hx C.hb C.hml C.hown C.hts C.hK (pm_contract (pm_ScOk_all l) ρ τ D sz aV pt_Y86 (Nat.le_of_ble_eq_true rfl) k4) pt_Y86 (pm_in 823 (by decide +kernel) rfl) (pm_in 824 (by decide +kernel) rfl) (pm_in 825 (by decide +kernel) rfl) ⟨RX6, TX6, 23, rfl, rfl⟩ g2 rfl ⟨(Nat.le_of_ble_eq_true rfl), (Nat.le_of_ble_eq_true rfl)⟩ ⟨C.hc, C.hs⟩ (Nat.le_of_ble_eq_true rfl) rfl dw_530 ?_
    refine pm_sB_ok C.hx C.hb dw_533 rfl ?_
    refine pr_ceq C.hx C.hb dw_535 (tgt := 540) rfl (fun _ => ?_) (fun z => absurd rfl z)
    refine pm_sB_ok C.hx C.hb dw_540 rfl ?_
    exact pr_ne C.hx C.hb dw_542 (tgt := 556) rfl (fun _ => pr_goto C.hx C.hb dw_556 (tgt := 1447) rfl (pl_fg (K w2 I2))) (fun z => absurd z (by decide))
theorem pl_c10 (C : pl_C p l s m args c cells slots ρ τ D sz aV b L xs i) (I : IV w) (K : ∀ w', IV w' → pm_K p l e room_1 s m args below meth c (cells + 1) (slots + 6) Q ρ τ D sz (1447, pl_0 i, [], w')) : pm_K p l e room_1 s m args below meth c cells slots Q ρ τ D sz (559, pl_0 i, [], w) := by
  obtain ⟨y, z, fk, B, t, h, K9, Q9, F, Y, n, N, TT, R, SN, cq, J⟩ := I
  have I : IV w := ⟨y, z, fk, B, t, h, K9, Q9, F, Y, n, N, TT, R, SN, cq, J⟩
  by_cases hz : xs (i + Int32.ofInt 4).toNatClampNeg = 0
  · by_cases hc : ab_rok (xs (i + Int32.ofInt 2).toNatClampNeg) (xs (i + Int32.ofInt 3).toNatClampNeg) ∧ ¬ xs (i + Int32.ofInt 1).toNatClampNeg < 0 ∧ xs (i + Int32.ofInt 1).toNatClampNeg < nI N
    · obtain ⟨r, w1, k1, ⟨o0, ho⟩, k2⟩ : pm_okL w 76 135 [.ref 0, .int (xs (i + Int32.ofInt 1).toNatClampNeg), .int (xs (i + Int32.ofInt 2).toNatClampNeg), .int (xs (i + Int32.ofInt 3).toNatClampNeg), .int 0] [.ref 200, .int (xs (i + Int32.ofInt 1).toNatClampNeg), .int (xs (i + Int32.ofInt 2).toNatClampNeg), .int (xs (i + Int32.ofInt 3).toNatClampNeg), .int 0] := (Iv_adds J).2 hc
      obtain ⟨x, hx9⟩ := pl_long rfl k1
      cases hx9
      obtain ⟨g1, w2, k3, g2, k4, g3, I2⟩ := k2 (vp_updL o0 0 x)
      refine pm_sB_ok C.hx C.hb dw_559 rfl ?_
      refine pl_arg (kv := 1) C.hx C.hb C.hX C.hbl C.hsz C.hρ (C.hin 1 (by decide) (by decide)) rfl dw_560 dw_561 dw_563 dw_564 dw_565 ?_
      refine pl_arg (kv := 2) C.hx C.hb C.hX C.hbl C.hsz C.hρ (C.hin 2 (by decide) (by decide)) rfl dw_566 dw_567 dw_569 dw_570 dw_571 ?_
      refine pl_arg (kv := 3) C.hx C.hb C.hX C.hbl C.hsz C.hρ (C.hin 3 (by decide) (by decide)) rfl dw_572 dw_573 dw_575 dw_576 dw_577 ?_
      refine pl_arg (kv := 4) C.hx C.hb C.hX C.hbl C.hsz C.hρ (C.hin 4 (by decide) (by decide)) rfl dw_578 dw_579 dw_581 dw_582 dw_583 ?_
      refine pr_eq C.hx C.hb dw_584 (tgt := 591) rfl (fun _ => ?_) (fun z => absurd hz z)
      refine pm_sA_ok C.hx C.hb dw_591 rfl ?_
      refine pm_sB_ok C.hx C.hb dw_592 rfl ?_
      refine pl_help (n := 6) (av := [.ref 0, .int (xs (i + Int32.ofInt 1).toNatClampNeg), .int (xs (i + Int32.ofInt 2).toNatClampNeg), .int (xs (i + Int32.ofInt 3).toNatClampNeg), .int 0, .ref 300]) (rest := []) (w' := (pm_up3 w1 (vp_updL o0 0 x))) C.hx C.hb C.hml C.hown C.hts C.hK (ph_ok2 k1 (IV.c0 I) ho) (pm_in 678 (by decide +kernel) rfl) (pm_in 676 (by decide +kernel) rfl) (pm_in 677 (by decide +kernel) rfl) (pm_in 61 (by decide +kernel) rfl) (by decide +kernel) rfl ⟨(Nat.le_of_ble_eq_true rfl), (Nat.le_of_ble_eq_true rfl)⟩ ⟨C.hc, C.hs⟩ (Nat.le_of_ble_eq_true rfl) rfl dw_593 ?_
      refine pm_sC_ok C.hx C.hb dw_596 rfl ?_
      refine pm_sB_ok C.hx C.hb dw_598 rfl ?_
      refine pl_arg (kv := 1) C.hx C.hb C.hX C.hbl C.hsz C.hρ (C.hin 1 (by decide) (by decide)) rfl dw_599 dw_600 dw_602 dw_603 dw_604 ?_
      refine pl_arg (kv := 2) C.hx C.hb C.hX C.hbl C.hsz C.hρ (C.hin 2 (by decide) (by decide)) rfl dw_605 dw_606 dw_608 dw_609 dw_610 ?_
      refine pl_arg (kv := 3) C.hx C.hb C.hX C.hbl C.hsz C.hρ (C.hin 3 (by decide) (by decide)) rfl dw_611 dw_612 dw_614 dw_615 dw_616 ?_
      refine pl_arg (kv := 4) C.hx C.hb C.hX C.hbl C.hsz C.hρ (C.hin 4 (by decide) (by decide)) rfl dw_617 dw_618 dw_620 dw_621 dw_622 ?_
      refine pr_eq C.hx C.hb dw_623 (tgt := 630) rfl (fun _ => ?_) (fun z => absurd hz z)
      refine pm_sA_ok C.hx C.hb dw_630 rfl ?_
      refine pr_callV (own := RL) (M := 135) (a := 200) (as := [.int (xs (i + Int32.ofInt 1).toNatClampNeg), .int (xs (i + Int32.ofInt 2).toNatClampNeg), .int (xs (i + Int32.ofInt 3).toNatClampNeg), .int 0]) (rest := []) (r := some (.long x)) (w' := w2) C.hx C.hb C.hml C.hown C.hts C.hK (pm_contract (pm_ScOk_all l) ρ τ D sz aV pt_Y135 (Nat.le_of_ble_eq_true rfl) k3) pt_Y135 (pm_in 1085 (by decide +kernel) rfl) (pm_in 1086 (by decide +kernel) rfl) (pm_in 1087 (by decide +kernel) rfl) ⟨RX6, TX6, 23, rfl, rfl⟩ g1 rfl ⟨(Nat.le_of_ble_eq_true rfl), (Nat.le_of_ble_eq_true rfl)⟩ ⟨C.hc, C.hs⟩ (Nat.le_of_ble_eq_true rfl) rfl dw_631 ?_
      refine pm_sC_ok C.hx C.hb dw_634 rfl ?_
      refine pm_sB_ok C.hx C.hb dw_636 rfl ?_
      refine pr_callV (own := RL) (M := 86) (a := 200) (as := []) (rest := []) (r := some (.int 0)) (w' := w2) C.hx C.hb C.hml C.hown C.hts C.hK (pm_contract (pm_ScOk_all l) ρ τ D sz aV pt_Y86 (Nat.le_of_ble_eq_true rfl) k4) pt_Y86 (pm_in 823 (by decide +kernel) rfl) (pm_in 824 (by decide +kernel) rfl) (pm_in 825 (by decide +kernel) rfl) ⟨RX6, TX6, 23, rfl, rfl⟩ g2 rfl ⟨(Nat.le_of_ble_eq_true rfl), (Nat.le_of_ble_eq_true rfl)⟩ ⟨C.hc, C.hs⟩ (Nat.le_of_ble_eq_true rfl) rfl dw_637 ?_
      refine pm_sB_ok C.hx C.hb dw_640 rfl ?_
      refine pr_ceq C.hx C.hb dw_642 (tgt := 647) rfl (fun _ => ?_) (fun z => absurd rfl z)
      refine pm_sB_ok C.hx C.hb dw_647 rfl ?_
      refine pr_ne C.hx C.hb dw_649 (tgt := 663) rfl (fun z => absurd rfl z) (fun _ => ?_)
      refine pm_sB_ok C.hx C.hb dw_652 rfl ?_
      refine pm_sA_ok C.hx C.hb dw_653 rfl ?_
      refine pm_lald (v := .long (x)) C.hx C.hb C.hK (by rw [g3]; rfl) dw_654 ?_
      refine pm_sB_ok C.hx C.hb dw_655 rfl ?_
      refine pm_sF_ok C.hx C.hb dw_657 rfl ?_
      exact pr_eq C.hx C.hb dw_658 (tgt := 663) rfl (fun _ => pr_goto C.hx C.hb dw_663 (tgt := 1447) rfl (pl_fg (K w2 I2))) (fun z => absurd (pl_cmp _) z)
    · obtain ⟨g1, r, w2, k3, g2, k4, I2⟩ : pm_noL w 135 [.ref 200, .int (xs (i + Int32.ofInt 1).toNatClampNeg), .int (xs (i + Int32.ofInt 2).toNatClampNeg), .int (xs (i + Int32.ofInt 3).toNatClampNeg), .int 0] := (Iv_adds J).1 hc
      obtain ⟨x, hx9⟩ := pl_long rfl k3
      cases hx9
      refine pm_sB_ok C.hx C.hb dw_559 rfl ?_
      refine pl_arg (kv := 1) C.hx C.hb C.hX C.hbl C.hsz C.hρ (C.hin 1 (by decide) (by decide)) rfl dw_560 dw_561 dw_563 dw_564 dw_565 ?_
      refine pl_arg (kv := 2) C.hx C.hb C.hX C.hbl C.hsz C.hρ (C.hin 2 (by decide) (by decide)) rfl dw_566 dw_567 dw_569 dw_570 dw_571 ?_
      refine pl_arg (kv := 3) C.hx C.hb C.hX C.hbl C.hsz C.hρ (C.hin 3 (by decide) (by decide)) rfl dw_572 dw_573 dw_575 dw_576 dw_577 ?_
      refine pl_arg (kv := 4) C.hx C.hb C.hX C.hbl C.hsz C.hρ (C.hin 4 (by decide) (by decide)) rfl dw_578 dw_579 dw_581 dw_582 dw_583 ?_
      refine pr_eq C.hx C.hb dw_584 (tgt := 591) rfl (fun _ => ?_) (fun z => absurd hz z)
      refine pm_sA_ok C.hx C.hb dw_591 rfl ?_
      refine pm_sB_ok C.hx C.hb dw_592 rfl ?_
      refine pl_help (n := 6) (av := [.ref 0, .int (xs (i + Int32.ofInt 1).toNatClampNeg), .int (xs (i + Int32.ofInt 2).toNatClampNeg), .int (xs (i + Int32.ofInt 3).toNatClampNeg), .int 0, .ref 300]) (rest := []) (w' := w) C.hx C.hb C.hml C.hown C.hts C.hK (ph_no2 (pn_adds J C.hlt hc) (IV.c0 I)) (pm_in 678 (by decide +kernel) rfl) (pm_in 676 (by decide +kernel) rfl) (pm_in 677 (by decide +kernel) rfl) (pm_in 61 (by decide +kernel) rfl) (by decide +kernel) rfl ⟨(Nat.le_of_ble_eq_true rfl), (Nat.le_of_ble_eq_true rfl)⟩ ⟨C.hc, C.hs⟩ (Nat.le_of_ble_eq_true rfl) rfl dw_593 ?_
      refine pm_sC_ok C.hx C.hb dw_596 rfl ?_
      refine pm_sB_ok C.hx C.hb dw_598 rfl ?_
      refine pl_arg (kv := 1) C.hx C.hb C.hX C.hbl C.hsz C.hρ (C.hin 1 (by decide) (by decide)) rfl dw_599 dw_600 dw_602 dw_603 dw_604 ?_
      refine pl_arg (kv := 2) C.hx C.hb C.hX C.hbl C.hsz C.hρ (C.hin 2 (by decide) (by decide)) rfl dw_605 dw_606 dw_608 dw_609 dw_610 ?_
      refine pl_arg (kv := 3) C.hx C.hb C.hX C.hbl C.hsz C.hρ (C.hin 3 (by decide) (by decide)) rfl dw_611 dw_612 dw_614 dw_615 dw_616 ?_
      refine pl_arg (kv := 4) C.hx C.hb C.hX C.hbl C.hsz C.hρ (C.hin 4 (by decide) (by decide)) rfl dw_617 dw_618 dw_620 dw_621 dw_622 ?_
      refine pr_eq C.hx C.hb dw_623 (tgt := 630) rfl (fun _ => ?_) (fun z => absurd hz z)
      refine pm_sA_ok C.hx C.hb dw_630 rfl ?_
      refine pr_callV (own := RL) (M := 135) (a := 200) (as := [.int (xs (i + Int32.ofInt 1).toNatClampNeg), .int (xs (i + Int32.ofInt 2).toNatClampNeg), .int (xs (i + Int32.ofInt 3).toNatClampNeg), .int 0]) (rest := []) (r := some (.long x)) (w' := w2) C.hx C.hb C.hml C.hown C.hts C.hK (pm_contract (pm_ScOk_all l) ρ τ D sz aV pt_Y135 (Nat.le_of_ble_eq_true rfl) k3) pt_Y135 (pm_in 1085 (by decide +kernel) rfl) (pm_in 1086 (by decide +kernel) rfl) (pm_in 1087 (by decide +kernel) rfl) ⟨RX6, TX6, 23, rfl, rfl⟩ g1 rfl ⟨(Nat.le_of_ble_eq_true rfl), (Nat.le_of_ble_eq_true rfl)⟩ ⟨C.hc, C.hs⟩ (Nat.le_of_ble_eq_true rfl) rfl dw_631 ?_
      refine pm_sC_ok C.hx C.hb dw_634 rfl ?_
      refine pm_sB_ok C.hx C.hb dw_636 rfl ?_
      refine pr_callV (own := RL) (M := 86) (a := 200) (as := []) (rest := []) (r := some (.int 1)) (w' := w2) C.hx C.hb C.hml C.hown C.hts C.hK (pm_contract (pm_ScOk_all l) ρ τ D sz aV pt_Y86 (Nat.le_of_ble_eq_true rfl) k4) pt_Y86 (pm_in 823 (by decide +kernel) rfl) (pm_in 824 (by decide +kernel) rfl) (pm_in 825 (by decide +kernel) rfl) ⟨RX6, TX6, 23, rfl, rfl⟩ g2 rfl ⟨(Nat.le_of_ble_eq_true rfl), (Nat.le_of_ble_eq_true rfl)⟩ ⟨C.hc, C.hs⟩ (Nat.le_of_ble_eq_true rfl) rfl dw_637 ?_
      refine pm_sB_ok C.hx C.hb dw_640 rfl ?_
      refine pr_ceq C.hx C.hb dw_642 (tgt := 647) rfl (fun _ => ?_) (fun z => absurd rfl z)
      refine pm_sB_ok C.hx C.hb dw_647 rfl ?_
      exact pr_ne C.hx C.hb dw_649 (tgt := 663) rfl (fun _ => pr_goto C.hx C.hb dw_663 (tgt := 1447) rfl (pl_fg (K w2 I2))) (fun z => absurd z (by decide))
  · by_cases hc : ab_rok (xs (i + Int32.ofInt 2).toNatClampNeg) (xs (i + Int32.ofInt 3).toNatClampNeg) ∧ ¬ xs (i + Int32.ofInt 1).toNatClampNeg < 0 ∧ xs (i + Int32.ofInt 1).toNatClampNeg < nI N
    · obtain ⟨r, w1, k1, ⟨o0, ho⟩, k2⟩ : pm_okL w 76 135 [.ref 0, .int (xs (i + Int32.ofInt 1).toNatClampNeg), .int (xs (i + Int32.ofInt 2).toNatClampNeg), .int (xs (i + Int32.ofInt 3).toNatClampNeg), .int 1] [.ref 200, .int (xs (i + Int32.ofInt 1).toNatClampNeg), .int (xs (i + Int32.ofInt 2).toNatClampNeg), .int (xs (i + Int32.ofInt 3).toNatClampNeg), .int 1] := (Iv_adds J).2 hc
      obtain ⟨x, hx9⟩ := pl_long rfl k1
      cases hx9
      obtain ⟨g1, w2, k3, g2, k4, g3, I2⟩ := k2 (vp_updL o0 0 x)
      refine pm_sB_ok C.hx C.hb dw_559 rfl ?_
      refine pl_arg (kv := 1) C.hx C.hb C.hX C.hbl C.hsz C.hρ (C.hin 1 (by decide) (by decide)) rfl dw_560 dw_561 dw_563 dw_564 dw_565 ?_
      refine pl_arg (kv := 2) C.hx C.hb C.hX C.hbl C.hsz C.hρ (C.hin 2 (by decide) (by decide)) rfl dw_566 dw_567 dw_569 dw_570 dw_571 ?_
      refine pl_arg (kv := 3) C.hx C.hb C.hX C.hbl C.hsz C.hρ (C.hin 3 (by decide) (by decide)) rfl dw_572 dw_573 dw_575 dw_576 dw_577 ?_
      refine pl_arg (kv := 4) C.hx C.hb C.hX C.hbl C.hsz C.hρ (C.hin 4 (by decide) (by decide)) rfl dw_578 dw_579 dw_581 dw_582 dw_583 ?_
      refine pr_eq C.hx C.hb dw_584 (tgt := 591) rfl (fun z => absurd z hz) (fun _ => ?_)
      refine pm_sA_ok C.hx C.hb dw_587 rfl ?_
      refine pr_goto C.hx C.hb dw_588 (tgt := 592) rfl ?_
      refine pm_sB_ok C.hx C.hb dw_592 rfl ?_
      refine pl_help (n := 6) (av := [.ref 0, .int (xs (i + Int32.ofInt 1).toNatClampNeg), .int (xs (i + Int32.ofInt 2).toNatClampNeg), .int (xs (i + Int32.ofInt 3).toNatClampNeg), .int 1, .ref 300]) (rest := []) (w' := (pm_up3 w1 (vp_updL o0 0 x))) C.hx C.hb C.hml C.hown C.hts C.hK (ph_ok2 k1 (IV.c0 I) ho) (pm_in 678 (by decide +kernel) rfl) (pm_in 676 (by decide +kernel) rfl) (pm_in 677 (by decide +kernel) rfl) (pm_in 61 (by decide +kernel) rfl) (by decide +kernel) rfl ⟨(Nat.le_of_ble_eq_true rfl), (Nat.le_of_ble_eq_true rfl)⟩ ⟨C.hc, C.hs⟩ (Nat.le_of_ble_eq_true rfl) rfl dw_593 ?_
      refine pm_sC_ok C.hx C.hb dw_596 rfl ?_
      refine pm_sB_ok C.hx C.hb dw_598 rfl ?_
      refine pl_arg (kv := 1) C.hx C.hb C.hX C.hbl C.hsz C.hρ (C.hin 1 (by decide) (by decide)) rfl dw_599 dw_600 dw_602 dw_603 dw_604 ?_
      refine pl_arg (kv := 2) C.hx C.hb C.hX C.hbl C.hsz C.hρ (C.hin 2 (by decide) (by decide)) rfl dw_605 dw_606 dw_608 dw_609 dw_610 ?_
      refine pl_arg (kv := 3) C.hx C.hb C.hX C.hbl C.hsz C.hρ (C.hin 3 (by decide) (by decide)) rfl dw_611 dw_612 dw_614 dw_615 dw_616 ?_
      refine pl_arg (kv := 4) C.hx C.hb C.hX C.hbl C.hsz C.hρ (C.hin 4 (by decide) (by decide)) rfl dw_617 dw_618 dw_620 dw_621 dw_622 ?_
      refine pr_eq C.hx C.hb dw_623 (tgt := 630) rfl (fun z => absurd z hz) (fun _ => ?_)
      refine pm_sA_ok C.hx C.hb dw_626 rfl ?_
      refine pr_goto C.hx C.hb dw_627 (tgt := 631) rfl ?_
      refine pr_callV (own := RL) (M := 135) (a := 200) (as := [.int (xs (i + Int32.ofInt 1).toNatClampNeg), .int (xs (i + Int32.ofInt 2).toNatClampNeg), .int (xs (i + Int32.ofInt 3).toNatClampNeg), .int 1]) (rest := []) (r := some (.long x)) (w' := w2) C.hx C.hb C.hml C.hown C.hts C.hK (pm_contract (pm_ScOk_all l) ρ τ D sz aV pt_Y135 (Nat.le_of_ble_eq_true rfl) k3) pt_Y135 (pm_in 1085 (by decide +kernel) rfl) (pm_in 1086 (by decide +kernel) rfl) (pm_in 1087 (by decide +kernel) rfl) ⟨RX6, TX6, 23, rfl, rfl⟩ g1 rfl ⟨(Nat.le_of_ble_eq_true rfl), (Nat.le_of_ble_eq_true rfl)⟩ ⟨C.hc, C.hs⟩ (Nat.le_of_ble_eq_true rfl) rfl dw_631 ?_
      refine pm_sC_ok C.hx C.hb dw_634 rfl ?_
      refine pm_sB_ok C.hx C.hb dw_636 rfl ?_
      refine pr_callV (own := RL) (M := 86) (a := 200) (as := []) (rest := []) (r := some (.int 0)) (w' := w2) C.hx C.hb C.hml C.hown C.hts C.hK (pm_contract (pm_ScOk_all l) ρ τ D sz aV pt_Y86 (Nat.le_of_ble_eq_true rfl) k4) pt_Y86 (pm_in 823 (by decide +kernel) rfl) (pm_in 824 (by decide +kernel) rfl) (pm_in 825 (by decide +kernel) rfl) ⟨RX6, TX6, 23, rfl, rfl⟩ g2 rfl ⟨(Nat.le_of_ble_eq_true rfl), (Nat.le_of_ble_eq_true rfl)⟩ ⟨C.hc, C.hs⟩ (Nat.le_of_ble_eq_true rfl) rfl dw_637 ?_
      refine pm_sB_ok C.hx C.hb dw_640 rfl ?_
      refine pr_ceq C.hx C.hb dw_642 (tgt := 647) rfl (fun _ => ?_) (fun z => absurd rfl z)
      refine pm_sB_ok C.hx C.hb dw_647 rfl ?_
      refine pr_ne C.hx C.hb dw_649 (tgt := 663) rfl (fun z => absurd rfl z) (fun _ => ?_)
      refine pm_sB_ok C.hx C.hb dw_652 rfl ?_
      refine pm_sA_ok C.hx C.hb dw_653 rfl ?_
      refine pm_lald (v := .long (x)) C.hx C.hb C.hK (by rw [g3]; rfl) dw_654 ?_
      refine pm_sB_ok C.hx C.hb dw_655 rfl ?_
      refine pm_sF_ok C.hx C.hb dw_657 rfl ?_
      exact pr_eq C.hx C.hb dw_658 (tgt := 663) rfl (fun _ => pr_goto C.hx C.hb dw_663 (tgt := 1447) rfl (pl_fg (K w2 I2))) (fun z => absurd (pl_cmp _) z)
    · obtain ⟨g1, r, w2, k3, g2, k4, I2⟩ : pm_noL w 135 [.ref 200, .int (xs (i + Int32.ofInt 1).toNatClampNeg), .int (xs (i + Int32.ofInt 2).toNatClampNeg), .int (xs (i + Int32.ofInt 3).toNatClampNeg), .int 1] := (Iv_adds J).1 hc
      obtain ⟨x, hx9⟩ := pl_long rfl k3
      cases hx9
      refine pm_sB_ok C.hx C.hb dw_559 rfl ?_
      refine pl_arg (kv := 1) C.hx C.hb C.hX C.hbl C.hsz C.hρ (C.hin 1 (by decide) (by decide)) rfl dw_560 dw_561 dw_563 dw_564 dw_565 ?_
      refine pl_arg (kv := 2) C.hx C.hb C.hX C.hbl C.hsz C.hρ (C.hin 2 (by decide) (by decide)) rfl dw_566 dw_567 dw_569 dw_570 dw_571 ?_
      refine pl_arg (kv := 3) C.hx C.hb C.hX C.hbl C.hsz C.hρ (C.hin 3 (by decide) (by decide)) rfl dw_572 dw_573 dw_575 dw_576 dw_577 ?_
      refine pl_arg (kv := 4) C.hx C.hb C.hX C.hbl C.hsz C.hρ (C.hin 4 (by decide) (by decide)) rfl dw_578 dw_579 dw_581 dw_582 dw_583 ?_
      refine pr_eq C.hx C.hb dw_584 (tgt := 591) rfl (fun z => absurd z hz) (fun _ => ?_)
      refine pm_sA_ok C.hx C.hb dw_587 rfl ?_
      refine pr_goto C.hx C.hb dw_588 (tgt := 592) rfl ?_
      refine pm_sB_ok C.hx C.hb dw_592 rfl ?_
      refine pl_help (n := 6) (av := [.ref 0, .int (xs (i + Int32.ofInt 1).toNatClampNeg), .int (xs (i + Int32.ofInt 2).toNatClampNeg), .int (xs (i + Int32.ofInt 3).toNatClampNeg), .int 1, .ref 300]) (rest := []) (w' := w) C.hx C.hb C.hml C.hown C.hts C.hK (ph_no2 (pn_adds J C.hlt hc) (IV.c0 I)) (pm_in 678 (by decide +kernel) rfl) (pm_in 676 (by decide +kernel) rfl) (pm_in 677 (by decide +kernel) rfl) (pm_in 61 (by decide +kernel) rfl) (by decide +kernel) rfl ⟨(Nat.le_of_ble_eq_true rfl), (Nat.le_of_ble_eq_true rfl)⟩ ⟨C.hc, C.hs⟩ (Nat.le_of_ble_eq_true rfl) rfl dw_593 ?_
      refine pm_sC_ok C.hx C.hb dw_596 rfl ?_
      refine pm_sB_ok C.hx C.hb dw_598 rfl ?_
      refine pl_arg (kv := 1) C.hx C.hb C.hX C.hbl C.hsz C.hρ (C.hin 1 (by decide) (by decide)) rfl dw_599 dw_600 dw_602 dw_603 dw_604 ?_
      refine pl_arg (kv := 2) C.hx C.hb C.hX C.hbl C.hsz C.hρ (C.hin 2 (by decide) (by decide)) rfl dw_605 dw_606 dw_608 dw_609 dw_610 ?_
      refine pl_arg (kv := 3) C.hx C.hb C.hX C.hbl C.hsz C.hρ (C.hin 3 (by decide) (by decide)) rfl dw_611 dw_612 dw_614 dw_615 dw_616 ?_
      refine pl_arg (kv := 4) C.hx C.hb C.hX C.hbl C.hsz C.hρ (C.hin 4 (by decide) (by decide)) rfl dw_617 dw_618 dw_620 dw_621 dw_622 ?_
      refine pr_eq C.hx C.hb dw_623 (tgt := 630) rfl (fun z => absurd z hz) (fun _ => ?_)
      refine pm_sA_ok C.hx C.hb dw_626 rfl ?_
      refine pr_goto C.hx C.hb dw_627 (tgt := 631) rfl ?_
      refine pr_callV (own := RL) (M := 135) (a := 200) (as := [.int (xs (i + Int32.ofInt 1).toNatClampNeg), .int (xs (i + Int32.ofInt 2).toNatClampNeg), .int (xs (i + Int32.ofInt 3).toNatClampNeg), .int 1]) (rest := []) (r := some (.long x)) (w' := w2) C.hx C.hb C.hml C.hown C.hts C.hK (pm_contract (pm_ScOk_all l) ρ τ D sz aV pt_Y135 (Nat.le_of_ble_eq_true rfl) k3) pt_Y135 (pm_in 1085 (by decide +kernel) rfl) (pm_in 1086 (by decide +kernel) rfl) (pm_in 1087 (by decide +kernel) rfl) ⟨RX6, TX6, 23, rfl, rfl⟩ g1 rfl ⟨(Nat.le_of_ble_eq_true rfl), (Nat.le_of_ble_eq_true rfl)⟩ ⟨C.hc, C.hs⟩ (Nat.le_of_ble_eq_true rfl) rfl dw_631 ?_
      refine pm_sC_ok C.hx C.hb dw_634 rfl ?_
      refine pm_sB_ok C.hx C.hb dw_636 rfl ?_
      refine pr_callV (own := RL) (M := 86) (a := 200) (as := []) (rest := []) (r := some (.int 1)) (w' := w2) C.hx C.hb C.hml C.hown C.hts C.hK (pm_contract (pm_ScOk_all l) ρ τ D sz aV pt_Y86 (Nat.le_of_ble_eq_true rfl) k4) pt_Y86 (pm_in 823 (by decide +kernel) rfl) (pm_in 824 (by decide +kernel) rfl) (pm_in 825 (by decide +kernel) rfl) ⟨RX6, TX6, 23, rfl, rfl⟩ g2 rfl ⟨(Nat.le_of_ble_eq_true rfl), (Nat.le_of_ble_eq_true rfl)⟩ ⟨C.hc, C.hs⟩ (Nat.le_of_ble_eq_true rfl) rfl dw_637 ?_
      refine pm_sB_ok C.hx C.hb dw_640 rfl ?_
      refine pr_ceq C.hx C.hb dw_642 (tgt := 647) rfl (fun _ => ?_) (fun z => absurd rfl z)
      refine pm_sB_ok C.hx C.hb dw_647 rfl ?_
      exact pr_ne C.hx C.hb dw_649 (tgt := 663) rfl (fun _ => pr_goto C.hx C.hb dw_663 (tgt := 1447) rfl (pl_fg (K w2 I2))) (fun z => absurd z (by decide))
theorem pl_c11 (C : pl_C p l s m args c cells slots ρ τ D sz aV b L xs i) (I : IV w) (K : ∀ w', IV w' → pm_K p l e room_1 s m args below meth c (cells + 1) (slots + 6) Q ρ τ D sz (1447, pl_0 i, [], w')) : pm_K p l e room_1 s m args below meth c cells slots Q ρ τ D sz (666, pl_0 i, [], w) := by
  by_cases hc : ab_rok (xs (i + Int32.ofInt 1).toNatClampNeg) (xs (i + Int32.ofInt 2).toNatClampNeg) ∧ ¬ xs (i + Int32.ofInt 3).toNatClampNeg < 0 ∧ ¬ 5 < xs (i + Int32.ofInt 3).toNatClampNeg
  · obtain ⟨r, w1, k1, ⟨o0, ho⟩, k2⟩ : pm_okL w 77 142 [.ref 0, .int (xs (i + Int32.ofInt 1).toNatClampNeg), .int (xs (i + Int32.ofInt 2).toNatClampNeg), .int (xs (i + Int32.ofInt 3).toNatClampNeg)] [.ref 200, .int (xs (i + Int32.ofInt 1).toNatClampNeg), .int (xs (i + Int32.ofInt 2).toNatClampNeg), .int (xs (i + Int32.ofInt 3).toNatClampNeg)] := (I_run I).2 hc
    obtain ⟨x, hx9⟩ := pl_int rfl k1
    cases hx9
    obtain ⟨g1, w2, k3, g2, k4, g3, I2⟩ := k2 (vp_updL o0 0 x.toInt64)
    refine pm_sB_ok C.hx C.hb dw_666 rfl ?_
    refine pl_arg (kv := 1) C.hx C.hb C.hX C.hbl C.hsz C.hρ (C.hin 1 (by decide) (by decide)) rfl dw_667 dw_668 dw_670 dw_671 dw_672 ?_
    refine pl_arg (kv := 2) C.hx C.hb C.hX C.hbl C.hsz C.hρ (C.hin 2 (by decide) (by decide)) rfl dw_673 dw_674 dw_676 dw_677 dw_678 ?_
    refine pl_arg (kv := 3) C.hx C.hb C.hX C.hbl C.hsz C.hρ (C.hin 3 (by decide) (by decide)) rfl dw_679 dw_680 dw_682 dw_683 dw_684 ?_
    refine pm_sB_ok C.hx C.hb dw_685 rfl ?_
    refine pl_help (n := 5) (av := [.ref 0, .int (xs (i + Int32.ofInt 1).toNatClampNeg), .int (xs (i + Int32.ofInt 2).toNatClampNeg), .int (xs (i + Int32.ofInt 3).toNatClampNeg), .ref 300]) (rest := []) (w' := (pm_up3 w1 (vp_updL o0 0 x.toInt64))) C.hx C.hb C.hml C.hown C.hts C.hK (ph_ok3 k1 (IV.c0 I) ho) (pm_in 717 (by decide +kernel) rfl) (pm_in 715 (by decide +kernel) rfl) (pm_in 716 (by decide +kernel) rfl) (pm_in 61 (by decide +kernel) rfl) (by decide +kernel) rfl ⟨(Nat.le_of_ble_eq_true rfl), (Nat.le_of_ble_eq_true rfl)⟩ ⟨C.hc, C.hs⟩ (Nat.le_of_ble_eq_true rfl) rfl dw_686 ?_
    refine pm_sC_ok C.hx C.hb dw_689 rfl ?_
    refine pm_sB_ok C.hx C.hb dw_691 rfl ?_
    refine pl_arg (kv := 1) C.hx C.hb C.hX C.hbl C.hsz C.hρ (C.hin 1 (by decide) (by decide)) rfl dw_692 dw_693 dw_695 dw_696 dw_697 ?_
    refine pl_arg (kv := 2) C.hx C.hb C.hX C.hbl C.hsz C.hρ (C.hin 2 (by decide) (by decide)) rfl dw_698 dw_699 dw_701 dw_702 dw_703 ?_
    refine pl_arg (kv := 3) C.hx C.hb C.hX C.hbl C.hsz C.hρ (C.hin 3 (by decide) (by decide)) rfl dw_704 dw_705 dw_707 dw_708 dw_709 ?_
    refine pr_callV (own := RL) (M := 142) (a := 200) (as := [.int (xs (i + Int32.ofInt 1).toNatClampNeg), .int (xs (i + Int32.ofInt 2).toNatClampNeg), .int (xs (i + Int32.ofInt 3).toNatClampNeg)]) (rest := []) (r := some (.int x)) (w' := w2) C.hx C.hb C.hml C.hown C.hts C.hK (pm_contract (pm_ScOk_all l) ρ τ D sz aV pt_Y142 (Nat.le_of_ble_eq_true rfl) k3) pt_Y142 (pm_in 1114 (by decide +kernel) rfl) (pm_in 1115 (by decide +kernel) rfl) (pm_in 1116 (by decide +kernel) rfl) ⟨RX6, TX6, 23, rfl, rfl⟩ g1 rfl ⟨(Nat.le_of_ble_eq_true rfl), (Nat.le_of_ble_eq_true rfl)⟩ ⟨C.hc, C.hs⟩ (Nat.le_of_ble_eq_true rfl) rfl dw_710 ?_
    refine pm_sC_ok C.hx C.hb dw_713 rfl ?_
    refine pm_sB_ok C.hx C.hb dw_715 rfl ?_
    refine pr_callV (own := RL) (M := 86) (a := 200) (as := []) (rest := []) (r := some (.int 0)) (w' := w2) C.hx C.hb C.hml C.hown C.hts C.hK (pm_contract (pm_ScOk_all l) ρ τ D sz aV pt_Y86 (Nat.le_of_ble_eq_true rfl) k4) pt_Y86 (pm_in 823 (by decide +kernel) rfl) (pm_in 824 (by decide +kernel) rfl) (pm_in 825 (by decide +kernel) rfl) ⟨RX6, TX6, 23, rfl, rfl⟩ g2 rfl ⟨(Nat.le_of_ble_eq_true rfl), (Nat.le_of_ble_eq_true rfl)⟩ ⟨C.hc, C.hs⟩ (Nat.le_of_ble_eq_true rfl) rfl dw_716 ?_
    refine pm_sB_ok C.hx C.hb dw_719 rfl ?_
    refine pr_ceq C.hx C.hb dw_721 (tgt := 726) rfl (fun _ => ?_) (fun z => absurd rfl z)
    refine pm_sB_ok C.hx C.hb dw_726 rfl ?_
    refine pr_ne C.hx C.hb dw_728 (tgt := 743) rfl (fun z => absurd rfl z) (fun _ => ?_)
    refine pm_sB_ok C.hx C.hb dw_731 rfl ?_
    refine pm_sA_ok C.hx C.hb dw_732 rfl ?_
    refine pm_lald (v := .long (x.toInt64)) C.hx C.hb C.hK (by rw [g3]; rfl) dw_733 ?_
    refine pm_sB_ok C.hx C.hb dw_734 rfl ?_
    refine pm_sF_ok C.hx C.hb dw_736 rfl ?_
    refine pm_sF_ok C.hx C.hb dw_737 rfl ?_
    exact pr_eq C.hx C.hb dw_738 (tgt := 743) rfl (fun _ => pr_goto C.hx C.hb dw_743 (tgt := 1447) rfl (pl_fg (K w2 I2))) (fun z => absurd (pl_cmp _) z)
  · obtain ⟨g1, r, w2, k3, g2, k4, I2⟩ : pm_noL w 142 [.ref 200, .int (xs (i + Int32.ofInt 1).toNatClampNeg), .int (xs (i + Int32.ofInt 2).toNatClampNeg), .int (xs (i + Int32.ofInt 3).toNatClampNeg)] := (I_run I).1 hc
    obtain ⟨x, hx9⟩ := pl_int rfl k3
    cases hx9
    refine pm_sB_ok C.hx C.hb dw_666 rfl ?_
    refine pl_arg (kv := 1) C.hx C.hb C.hX C.hbl C.hsz C.hρ (C.hin 1 (by decide) (by decide)) rfl dw_667 dw_668 dw_670 dw_671 dw_672 ?_
    refine pl_arg (kv := 2) C.hx C.hb C.hX C.hbl C.hsz C.hρ (C.hin 2 (by decide) (by decide)) rfl dw_673 dw_674 dw_676 dw_677 dw_678 ?_
    refine pl_arg (kv := 3) C.hx C.hb C.hX C.hbl C.hsz C.hρ (C.hin 3 (by decide) (by decide)) rfl dw_679 dw_680 dw_682 dw_683 dw_684 ?_
    refine pm_sB_ok C.hx C.hb dw_685 rfl ?_
    refine pl_help (n := 5) (av := [.ref 0, .int (xs (i + Int32.ofInt 1).toNatClampNeg), .int (xs (i + Int32.ofInt 2).toNatClampNeg), .int (xs (i + Int32.ofInt 3).toNatClampNeg), .ref 300]) (rest := []) (w' := w) C.hx C.hb C.hml C.hown C.hts C.hK (ph_no3 (pn_run C.hlt hc) (IV.c0 I)) (pm_in 717 (by decide +kernel) rfl) (pm_in 715 (by decide +kernel) rfl) (pm_in 716 (by decide +kernel) rfl) (pm_in 61 (by decide +kernel) rfl) (by decide +kernel) rfl ⟨(Nat.le_of_ble_eq_true rfl), (Nat.le_of_ble_eq_true rfl)⟩ ⟨C.hc, C.hs⟩ (Nat.le_of_ble_eq_true rfl) rfl dw_686 ?_
    refine pm_sC_ok C.hx C.hb dw_689 rfl ?_
    refine pm_sB_ok C.hx C.hb dw_691 rfl ?_
    refine pl_arg (kv := 1) C.hx C.hb C.hX C.hbl C.hsz C.hρ (C.hin 1 (by decide) (by decide)) rfl dw_692 dw_693 dw_695 dw_696 dw_697 ?_
    refine pl_arg (kv := 2) C.hx C.hb C.hX C.hbl C.hsz C.hρ (C.hin 2 (by decide) (by decide)) rfl dw_698 dw_699 dw_701 dw_702 dw_703 ?_
    refine pl_arg (kv := 3) C.hx C.hb C.hX C.hbl C.hsz C.hρ (C.hin 3 (by decide) (by decide)) rfl dw_704 dw_705 dw_707 dw_708 dw_709 ?_
    refine pr_callV (own := RL) (M := 142) (a := 200) (as := [.int (xs (i + Int32.ofInt 1).toNatClampNeg), .int (xs (i + Int32.ofInt 2).toNatClampNeg), .int (xs (i + Int32.ofInt 3).toNatClampNeg)]) (rest := []) (r := some (.int x)) (w' := w2) C.hx C.hb C.hml C.hown C.hts C.hK (pm_contract (pm_ScOk_all l) ρ τ D sz aV pt_Y142 (Nat.le_of_ble_eq_true rfl) k3) pt_Y142 (pm_in 1114 (by decide +kernel) rfl) (pm_in 1115 (by decide +kernel) rfl) (pm_in 1116 (by decide +kernel) rfl) ⟨RX6, TX6, 23, rfl, rfl⟩ g1 rfl ⟨(Nat.le_of_ble_eq_true rfl), (Nat.le_of_ble_eq_true rfl)⟩ ⟨C.hc, C.hs⟩ (Nat.le_of_ble_eq_true rfl) rfl dw_710 ?_
    refine pm_sC_ok C.hx C.hb dw_713 rfl ?_
    refine pm_sB_ok C.hx C.hb dw_715 rfl ?_
    refine pr_callV (own := RL) (M := 86) (a := 200) (as := []) (rest := []) (r := some (.int 1)) (w' := w2) C.hx C.hb C.hml C.hown C.hts C.hK (pm_contract (pm_ScOk_all l) ρ τ D sz aV pt_Y86 (Nat.le_of_ble_eq_true rfl) k4) pt_Y86 (pm_in 823 (by decide +kernel) rfl) (pm_in 824 (by decide +kernel) rfl) (pm_in 825 (by decide +kernel) rfl) ⟨RX6, TX6, 23, rfl, rfl⟩ g2 rfl ⟨(Nat.le_of_ble_eq_true rfl), (Nat.le_of_ble_eq_true rfl)⟩ ⟨C.hc, C.hs⟩ (Nat.le_of_ble_eq_true rfl) rfl dw_716 ?_
    refine pm_sB_ok C.hx C.hb dw_719 rfl ?_
    refine pr_ceq C.hx C.hb dw_721 (tgt := 726) rfl (fun _ => ?_) (fun z => absurd rfl z)
    refine pm_sB_ok C.hx C.hb dw_726 rfl ?_
    exact pr_ne C.hx C.hb dw_728 (tgt := 743) rfl (fun _ => pr_goto C.hx C.hb dw_743 (tgt := 1447) rfl (pl_fg (K w2 I2))) (fun z => absurd z (by decide))
theorem pl_c12 (C : pl_C p l s m args c cells slots ρ τ D sz aV b L xs i) (I : IV w) (K : ∀ w', IV w' → pm_K p l e room_1 s m args below meth c (cells + 1) (slots + 6) Q ρ τ D sz (1447, pl_0 i, [], w')) : pm_K p l e room_1 s m args below meth c cells slots Q ρ τ D sz (746, pl_0 i, [], w) := by
  by_cases hc : ab_rok (xs (i + Int32.ofInt 1).toNatClampNeg) (xs (i + Int32.ofInt 2).toNatClampNeg)
  · obtain ⟨r, w1, k1, ⟨o0, ho⟩, k2⟩ : pm_okL w 78 148 [.ref 0, .int (xs (i + Int32.ofInt 1).toNatClampNeg), .int (xs (i + Int32.ofInt 2).toNatClampNeg), .int (xs (i + Int32.ofInt 3).toNatClampNeg)] [.ref 200, .int (xs (i + Int32.ofInt 1).toNatClampNeg), .int (xs (i + Int32.ofInt 2).toNatClampNeg), .int (xs (i + Int32.ofInt 3).toNatClampNeg)] := (I_rank I).2 hc
    obtain ⟨x, hx9⟩ := pl_int rfl k1
    cases hx9
    obtain ⟨g1, w2, k3, g2, k4, g3, I2⟩ := k2 (vp_updL o0 0 x.toInt64)
    refine pm_sB_ok C.hx C.hb dw_746 rfl ?_
    refine pl_arg (kv := 1) C.hx C.hb C.hX C.hbl C.hsz C.hρ (C.hin 1 (by decide) (by decide)) rfl dw_747 dw_748 dw_750 dw_751 dw_752 ?_
    refine pl_arg (kv := 2) C.hx C.hb C.hX C.hbl C.hsz C.hρ (C.hin 2 (by decide) (by decide)) rfl dw_753 dw_754 dw_756 dw_757 dw_758 ?_
    refine pl_arg (kv := 3) C.hx C.hb C.hX C.hbl C.hsz C.hρ (C.hin 3 (by decide) (by decide)) rfl dw_759 dw_760 dw_762 dw_763 dw_764 ?_
    refine pm_sB_ok C.hx C.hb dw_765 rfl ?_
    refine pl_help (n := 5) (av := [.ref 0, .int (xs (i + Int32.ofInt 1).toNatClampNeg), .int (xs (i + Int32.ofInt 2).toNatClampNeg), .int (xs (i + Int32.ofInt 3).toNatClampNeg), .ref 300]) (rest := []) (w' := (pm_up3 w1 (vp_updL o0 0 x.toInt64))) C.hx C.hb C.hml C.hown C.hts C.hK (ph_ok4 k1 (IV.c0 I) ho) (pm_in 767 (by decide +kernel) rfl) (pm_in 765 (by decide +kernel) rfl) (pm_in 766 (by decide +kernel) rfl) (pm_in 61 (by decide +kernel) rfl) (by decide +kernel) rfl ⟨(Nat.le_of_ble_eq_true rfl), (Nat.le_of_ble_eq_true rfl)⟩ ⟨C.hc, C.hs⟩ (Nat.le_of_ble_eq_true rfl) rfl dw_766 ?_
    refine pm_sC_ok C.hx C.hb dw_769 rfl ?_
    refine pm_sB_ok C.hx C.hb dw_771 rfl ?_
    refine pl_arg (kv := 1) C.hx C.hb C.hX C.hbl C.hsz C.hρ (C.hin 1 (by decide) (by decide)) rfl dw_772 dw_773 dw_775 dw_776 dw_777 ?_
    refine pl_arg (kv := 2) C.hx C.hb C.hX C.hbl C.hsz C.hρ (C.hin 2 (by decide) (by decide)) rfl dw_778 dw_779 dw_781 dw_782 dw_783 ?_
    refine pl_arg (kv := 3) C.hx C.hb C.hX C.hbl C.hsz C.hρ (C.hin 3 (by decide) (by decide)) rfl dw_784 dw_785 dw_787 dw_788 dw_789 ?_
    refine pr_callV (own := RL) (M := 148) (a := 200) (as := [.int (xs (i + Int32.ofInt 1).toNatClampNeg), .int (xs (i + Int32.ofInt 2).toNatClampNeg), .int (xs (i + Int32.ofInt 3).toNatClampNeg)]) (rest := []) (r := some (.int x)) (w' := w2) C.hx C.hb C.hml C.hown C.hts C.hK (pm_contract (pm_ScOk_all l) ρ τ D sz aV pt_Y148 (Nat.le_of_ble_eq_true rfl) k3) pt_Y148 (pm_in 1139 (by decide +kernel) rfl) (pm_in 1140 (by decide +kernel) rfl) (pm_in 1141 (by decide +kernel) rfl) ⟨RX6, TX6, 23, rfl, rfl⟩ g1 rfl ⟨(Nat.le_of_ble_eq_true rfl), (Nat.le_of_ble_eq_true rfl)⟩ ⟨C.hc, C.hs⟩ (Nat.le_of_ble_eq_true rfl) rfl dw_790 ?_
    refine pm_sC_ok C.hx C.hb dw_793 rfl ?_
    refine pm_sB_ok C.hx C.hb dw_795 rfl ?_
    refine pr_callV (own := RL) (M := 86) (a := 200) (as := []) (rest := []) (r := some (.int 0)) (w' := w2) C.hx C.hb C.hml C.hown C.hts C.hK (pm_contract (pm_ScOk_all l) ρ τ D sz aV pt_Y86 (Nat.le_of_ble_eq_true rfl) k4) pt_Y86 (pm_in 823 (by decide +kernel) rfl) (pm_in 824 (by decide +kernel) rfl) (pm_in 825 (by decide +kernel) rfl) ⟨RX6, TX6, 23, rfl, rfl⟩ g2 rfl ⟨(Nat.le_of_ble_eq_true rfl), (Nat.le_of_ble_eq_true rfl)⟩ ⟨C.hc, C.hs⟩ (Nat.le_of_ble_eq_true rfl) rfl dw_796 ?_
    refine pm_sB_ok C.hx C.hb dw_799 rfl ?_
    refine pr_ceq C.hx C.hb dw_801 (tgt := 806) rfl (fun _ => ?_) (fun z => absurd rfl z)
    refine pm_sB_ok C.hx C.hb dw_806 rfl ?_
    refine pr_ne C.hx C.hb dw_808 (tgt := 823) rfl (fun z => absurd rfl z) (fun _ => ?_)
    refine pm_sB_ok C.hx C.hb dw_811 rfl ?_
    refine pm_sA_ok C.hx C.hb dw_812 rfl ?_
    refine pm_lald (v := .long (x.toInt64)) C.hx C.hb C.hK (by rw [g3]; rfl) dw_813 ?_
    refine pm_sB_ok C.hx C.hb dw_814 rfl ?_
    refine pm_sF_ok C.hx C.hb dw_816 rfl ?_
    refine pm_sF_ok C.hx C.hb dw_817 rfl ?_
    exact pr_eq C.hx C.hb dw_818 (tgt := 823) rfl (fun _ => pr_goto C.hx C.hb dw_823 (tgt := 1447) rfl (pl_fg (K w2 I2))) (fun z => absurd (pl_cmp _) z)
  · obtain ⟨g1, r, w2, k3, g2, k4, I2⟩ : pm_noL w 148 [.ref 200, .int (xs (i + Int32.ofInt 1).toNatClampNeg), .int (xs (i + Int32.ofInt 2).toNatClampNeg), .int (xs (i + Int32.ofInt 3).toNatClampNeg)] := (I_rank I).1 hc
    obtain ⟨x, hx9⟩ := pl_int rfl k3
    cases hx9
    refine pm_sB_ok C.hx C.hb dw_746 rfl ?_
    refine pl_arg (kv := 1) C.hx C.hb C.hX C.hbl C.hsz C.hρ (C.hin 1 (by decide) (by decide)) rfl dw_747 dw_748 dw_750 dw_751 dw_752 ?_
    refine pl_arg (kv := 2) C.hx C.hb C.hX C.hbl C.hsz C.hρ (C.hin 2 (by decide) (by decide)) rfl dw_753 dw_754 dw_756 dw_757 dw_758 ?_
    refine pl_arg (kv := 3) C.hx C.hb C.hX C.hbl C.hsz C.hρ (C.hin 3 (by decide) (by decide)) rfl dw_759 dw_760 dw_762 dw_763 dw_764 ?_
    refine pm_sB_ok C.hx C.hb dw_765 rfl ?_
    refine pl_help (n := 5) (av := [.ref 0, .int (xs (i + Int32.ofInt 1).toNatClampNeg), .int (xs (i + Int32.ofInt 2).toNatClampNeg), .int (xs (i + Int32.ofInt 3).toNatClampNeg), .ref 300]) (rest := []) (w' := w) C.hx C.hb C.hml C.hown C.hts C.hK (ph_no4 (px_78 C.hlt hc) (IV.c0 I)) (pm_in 767 (by decide +kernel) rfl) (pm_in 765 (by decide +kernel) rfl) (pm_in 766 (by decide +kernel) rfl) (pm_in 61 (by decide +kernel) rfl) (by decide +kernel) rfl ⟨(Nat.le_of_ble_eq_true rfl), (Nat.le_of_ble_eq_true rfl)⟩ ⟨C.hc, C.hs⟩ (Nat.le_of_ble_eq_true rfl) rfl dw_766 ?_
    refine pm_sC_ok C.hx C.hb dw_769 rfl ?_
    refine pm_sB_ok C.hx C.hb dw_771 rfl ?_
    refine pl_arg (kv := 1) C.hx C.hb C.hX C.hbl C.hsz C.hρ (C.hin 1 (by decide) (by decide)) rfl dw_772 dw_773 dw_775 dw_776 dw_777 ?_
    refine pl_arg (kv := 2) C.hx C.hb C.hX C.hbl C.hsz C.hρ (C.hin 2 (by decide) (by decide)) rfl dw_778 dw_779 dw_781 dw_782 dw_783 ?_
    refine pl_arg (kv := 3) C.hx C.hb C.hX C.hbl C.hsz C.hρ (C.hin 3 (by decide) (by decide)) rfl dw_784 dw_785 dw_787 dw_788 dw_789 ?_
    refine pr_callV (own := RL) (M := 148) (a := 200) (as := [.int (xs (i + Int32.ofInt 1).toNatClampNeg), .int (xs (i + Int32.ofInt 2).toNatClampNeg), .int (xs (i + Int32.ofInt 3).toNatClampNeg)]) (rest := []) (r := some (.int x)) (w' := w2) C.hx C.hb C.hml C.hown C.hts C.hK (pm_contract (pm_ScOk_all l) ρ τ D sz aV pt_Y148 (Nat.le_of_ble_eq_true rfl) k3) pt_Y148 (pm_in 1139 (by decide +kernel) rfl) (pm_in 1140 (by decide +kernel) rfl) (pm_in 1141 (by decide +kernel) rfl) ⟨RX6, TX6, 23, rfl, rfl⟩ g1 rfl ⟨(Nat.le_of_ble_eq_true rfl), (Nat.le_of_ble_eq_true rfl)⟩ ⟨C.hc, C.hs⟩ (Nat.le_of_ble_eq_true rfl) rfl dw_790 ?_
    refine pm_sC_ok C.hx C.hb dw_793 rfl ?_
    refine pm_sB_ok C.hx C.hb dw_795 rfl ?_
    refine pr_callV (own := RL) (M := 86) (a := 200) (as := []) (rest := []) (r := some (.int 1)) (w' := w2) C.hx C.hb C.hml C.hown C.hts C.hK (pm_contract (pm_ScOk_all l) ρ τ D sz aV pt_Y86 (Nat.le_of_ble_eq_true rfl) k4) pt_Y86 (pm_in 823 (by decide +kernel) rfl) (pm_in 824 (by decide +kernel) rfl) (pm_in 825 (by decide +kernel) rfl) ⟨RX6, TX6, 23, rfl, rfl⟩ g2 rfl ⟨(Nat.le_of_ble_eq_true rfl), (Nat.le_of_ble_eq_true rfl)⟩ ⟨C.hc, C.hs⟩ (Nat.le_of_ble_eq_true rfl) rfl dw_796 ?_
    refine pm_sB_ok C.hx C.hb dw_799 rfl ?_
    refine pr_ceq C.hx C.hb dw_801 (tgt := 806) rfl (fun _ => ?_) (fun z => absurd rfl z)
    refine pm_sB_ok C.hx C.hb dw_806 rfl ?_
    exact pr_ne C.hx C.hb dw_808 (tgt := 823) rfl (fun _ => pr_goto C.hx C.hb dw_823 (tgt := 1447) rfl (pl_fg (K w2 I2))) (fun z => absurd z (by decide))
theorem pl_c13 (C : pl_C p l s m args c cells slots ρ τ D sz aV b L xs i) (I : IV w) (K : ∀ w', IV w' → pm_K p l e room_1 s m args below meth c (cells + 1) (slots + 6) Q ρ τ D sz (1447, pl_0 i, [], w')) : pm_K p l e room_1 s m args below meth c cells slots Q ρ τ D sz (826, pl_0 i, [], w) := by
  by_cases hc : ab_rok (xs (i + Int32.ofInt 2).toNatClampNeg) (xs (i + Int32.ofInt 3).toNatClampNeg)
  · obtain ⟨r, w1, k1, ⟨o0, ho⟩, k2⟩ : pm_okL w 79 149 [.ref 0, .int (xs (i + Int32.ofInt 1).toNatClampNeg), .int (xs (i + Int32.ofInt 2).toNatClampNeg), .int (xs (i + Int32.ofInt 3).toNatClampNeg)] [.ref 200, .int (xs (i + Int32.ofInt 1).toNatClampNeg), .int (xs (i + Int32.ofInt 2).toNatClampNeg), .int (xs (i + Int32.ofInt 3).toNatClampNeg)] := (I_without I).2 hc
    obtain ⟨x, hx9⟩ := pl_int rfl k1
    cases hx9
    obtain ⟨g1, w2, k3, g2, k4, g3, I2⟩ := k2 (vp_updL o0 0 x.toInt64)
    refine pm_sB_ok C.hx C.hb dw_826 rfl ?_
    refine pl_arg (kv := 1) C.hx C.hb C.hX C.hbl C.hsz C.hρ (C.hin 1 (by decide) (by decide)) rfl dw_827 dw_828 dw_830 dw_831 dw_832 ?_
    refine pl_arg (kv := 2) C.hx C.hb C.hX C.hbl C.hsz C.hρ (C.hin 2 (by decide) (by decide)) rfl dw_833 dw_834 dw_836 dw_837 dw_838 ?_
    refine pl_arg (kv := 3) C.hx C.hb C.hX C.hbl C.hsz C.hρ (C.hin 3 (by decide) (by decide)) rfl dw_839 dw_840 dw_842 dw_843 dw_844 ?_
    refine pm_sB_ok C.hx C.hb dw_845 rfl ?_
    refine pl_help (n := 5) (av := [.ref 0, .int (xs (i + Int32.ofInt 1).toNatClampNeg), .int (xs (i + Int32.ofInt 2).toNatClampNeg), .int (xs (i + Int32.ofInt 3).toNatClampNeg), .ref 300]) (rest := []) (w' := (pm_up3 w1 (vp_updL o0 0 x.toInt64))) C.hx C.hb C.hml C.hown C.hts C.hK (ph_ok5 k1 (IV.c0 I) ho) (pm_in 774 (by decide +kernel) rfl) (pm_in 772 (by decide +kernel) rfl) (pm_in 773 (by decide +kernel) rfl) (pm_in 61 (by decide +kernel) rfl) (by decide +kernel) rfl ⟨(Nat.le_of_ble_eq_true rfl), (Nat.le_of_ble_eq_true rfl)⟩ ⟨C.hc, C.hs⟩ (Nat.le_of_ble_eq_true rfl) rfl dw_846 ?_
    refine pm_sC_ok C.hx C.hb dw_849 rfl ?_
    refine pm_sB_ok C.hx C.hb dw_851 rfl ?_
    refine pl_arg (kv := 1) C.hx C.hb C.hX C.hbl C.hsz C.hρ (C.hin 1 (by decide) (by decide)) rfl dw_852 dw_853 dw_855 dw_856 dw_857 ?_
    refine pl_arg (kv := 2) C.hx C.hb C.hX C.hbl C.hsz C.hρ (C.hin 2 (by decide) (by decide)) rfl dw_858 dw_859 dw_861 dw_862 dw_863 ?_
    refine pl_arg (kv := 3) C.hx C.hb C.hX C.hbl C.hsz C.hρ (C.hin 3 (by decide) (by decide)) rfl dw_864 dw_865 dw_867 dw_868 dw_869 ?_
    refine pr_callV (own := RL) (M := 149) (a := 200) (as := [.int (xs (i + Int32.ofInt 1).toNatClampNeg), .int (xs (i + Int32.ofInt 2).toNatClampNeg), .int (xs (i + Int32.ofInt 3).toNatClampNeg)]) (rest := []) (r := some (.int x)) (w' := w2) C.hx C.hb C.hml C.hown C.hts C.hK (pm_contract (pm_ScOk_all l) ρ τ D sz aV pt_Y149 (Nat.le_of_ble_eq_true rfl) k3) pt_Y149 (pm_in 1143 (by decide +kernel) rfl) (pm_in 1144 (by decide +kernel) rfl) (pm_in 1145 (by decide +kernel) rfl) ⟨RX6, TX6, 23, rfl, rfl⟩ g1 rfl ⟨(Nat.le_of_ble_eq_true rfl), (Nat.le_of_ble_eq_true rfl)⟩ ⟨C.hc, C.hs⟩ (Nat.le_of_ble_eq_true rfl) rfl dw_870 ?_
    refine pm_sC_ok C.hx C.hb dw_873 rfl ?_
    refine pm_sB_ok C.hx C.hb dw_875 rfl ?_
    refine pr_callV (own := RL) (M := 86) (a := 200) (as := []) (rest := []) (r := some (.int 0)) (w' := w2) C.hx C.hb C.hml C.hown C.hts C.hK (pm_contract (pm_ScOk_all l) ρ τ D sz aV pt_Y86 (Nat.le_of_ble_eq_true rfl) k4) pt_Y86 (pm_in 823 (by decide +kernel) rfl) (pm_in 824 (by decide +kernel) rfl) (pm_in 825 (by decide +kernel) rfl) ⟨RX6, TX6, 23, rfl, rfl⟩ g2 rfl ⟨(Nat.le_of_ble_eq_true rfl), (Nat.le_of_ble_eq_true rfl)⟩ ⟨C.hc, C.hs⟩ (Nat.le_of_ble_eq_true rfl) rfl dw_876 ?_
    refine pm_sB_ok C.hx C.hb dw_879 rfl ?_
    refine pr_ceq C.hx C.hb dw_881 (tgt := 886) rfl (fun _ => ?_) (fun z => absurd rfl z)
    refine pm_sB_ok C.hx C.hb dw_886 rfl ?_
    refine pr_ne C.hx C.hb dw_888 (tgt := 903) rfl (fun z => absurd rfl z) (fun _ => ?_)
    refine pm_sB_ok C.hx C.hb dw_891 rfl ?_
    refine pm_sA_ok C.hx C.hb dw_892 rfl ?_
    refine pm_lald (v := .long (x.toInt64)) C.hx C.hb C.hK (by rw [g3]; rfl) dw_893 ?_
    refine pm_sB_ok C.hx C.hb dw_894 rfl ?_
    refine pm_sF_ok C.hx C.hb dw_896 rfl ?_
    refine pm_sF_ok C.hx C.hb dw_897 rfl ?_
    exact pr_eq C.hx C.hb dw_898 (tgt := 903) rfl (fun _ => pr_goto C.hx C.hb dw_903 (tgt := 1447) rfl (pl_fg (K w2 I2))) (fun z => absurd (pl_cmp _) z)
  · obtain ⟨g1, r, w2, k3, g2, k4, I2⟩ : pm_noL w 149 [.ref 200, .int (xs (i + Int32.ofInt 1).toNatClampNeg), .int (xs (i + Int32.ofInt 2).toNatClampNeg), .int (xs (i + Int32.ofInt 3).toNatClampNeg)] := (I_without I).1 hc
    obtain ⟨x, hx9⟩ := pl_int rfl k3
    cases hx9
    refine pm_sB_ok C.hx C.hb dw_826 rfl ?_
    refine pl_arg (kv := 1) C.hx C.hb C.hX C.hbl C.hsz C.hρ (C.hin 1 (by decide) (by decide)) rfl dw_827 dw_828 dw_830 dw_831 dw_832 ?_
    refine pl_arg (kv := 2) C.hx C.hb C.hX C.hbl C.hsz C.hρ (C.hin 2 (by decide) (by decide)) rfl dw_833 dw_834 dw_836 dw_837 dw_838 ?_
    refine pl_arg (kv := 3) C.hx C.hb C.hX C.hbl C.hsz C.hρ (C.hin 3 (by decide) (by decide)) rfl dw_839 dw_840 dw_842 dw_843 dw_844 ?_
    refine pm_sB_ok C.hx C.hb dw_845 rfl ?_
    refine pl_help (n := 5) (av := [.ref 0, .int (xs (i + Int32.ofInt 1).toNatClampNeg), .int (xs (i + Int32.ofInt 2).toNatClampNeg), .int (xs (i + Int32.ofInt 3).toNatClampNeg), .ref 300]) (rest := []) (w' := w) C.hx C.hb C.hml C.hown C.hts C.hK (ph_no5 (px_79 C.hlt hc) (IV.c0 I)) (pm_in 774 (by decide +kernel) rfl) (pm_in 772 (by decide +kernel) rfl) (pm_in 773 (by decide +kernel) rfl) (pm_in 61 (by decide +kernel) rfl) (by decide +kernel) rfl ⟨(Nat.le_of_ble_eq_true rfl), (Nat.le_of_ble_eq_true rfl)⟩ ⟨C.hc, C.hs⟩ (Nat.le_of_ble_eq_true rfl) rfl dw_846 ?_
    refine pm_sC_ok C.hx C.hb dw_849 rfl ?_
    refine pm_sB_ok C.hx C.hb dw_851 rfl ?_
    refine pl_arg (kv := 1) C.hx C.hb C.hX C.hbl C.hsz C.hρ (C.hin 1 (by decide) (by decide)) rfl dw_852 dw_853 dw_855 dw_856 dw_857 ?_
    refine pl_arg (kv := 2) C.hx C.hb C.hX C.hbl C.hsz C.hρ (C.hin 2 (by decide) (by decide)) rfl dw_858 dw_859 dw_861 dw_862 dw_863 ?_
    refine pl_arg (kv := 3) C.hx C.hb C.hX C.hbl C.hsz C.hρ (C.hin 3 (by decide) (by decide)) rfl dw_864 dw_865 dw_867 dw_868 dw_869 ?_
    refine pr_callV (own := RL) (M := 149) (a := 200) (as := [.int (xs (i + Int32.ofInt 1).toNatClampNeg), .int (xs (i + Int32.ofInt 2).toNatClampNeg), .int (xs (i + Int32.ofInt 3).toNatClampNeg)]) (rest := []) (r := some (.int x)) (w' := w2) C.hx C.hb C.hml C.hown C.hts C.hK (pm_contract (pm_ScOk_all l) ρ τ D sz aV pt_Y149 (Nat.le_of_ble_eq_true rfl) k3) pt_Y149 (pm_in 1143 (by decide +kernel) rfl) (pm_in 1144 (by decide +kernel) rfl) (pm_in 1145 (by decide +kernel) rfl) ⟨RX6, TX6, 23, rfl, rfl⟩ g1 rfl ⟨(Nat.le_of_ble_eq_true rfl), (Nat.le_of_ble_eq_true rfl)⟩ ⟨C.hc, C.hs⟩ (Nat.le_of_ble_eq_true rfl) rfl dw_870 ?_
    refine pm_sC_ok C.hx C.hb dw_873 rfl ?_
    refine pm_sB_ok C.hx C.hb dw_875 rfl ?_
    refine pr_callV (own := RL) (M := 86) (a := 200) (as := []) (rest := []) (r := some (.int 1)) (w' := w2) C.hx C.hb C.hml C.hown C.hts C.hK (pm_contract (pm_ScOk_all l) ρ τ D sz aV pt_Y86 (Nat.le_of_ble_eq_true rfl) k4) pt_Y86 (pm_in 823 (by decide +kernel) rfl) (pm_in 824 (by decide +kernel) rfl) (pm_in 825 (by decide +kernel) rfl) ⟨RX6, TX6, 23, rfl, rfl⟩ g2 rfl ⟨(Nat.le_of_ble_eq_true rfl), (Nat.le_of_ble_eq_true rfl)⟩ ⟨C.hc, C.hs⟩ (Nat.le_of_ble_eq_true rfl) rfl dw_876 ?_
    refine pm_sB_ok C.hx C.hb dw_879 rfl ?_
    refine pr_ceq C.hx C.hb dw_881 (tgt := 886) rfl (fun _ => ?_) (fun z => absurd rfl z)
    refine pm_sB_ok C.hx C.hb dw_886 rfl ?_
    exact pr_ne C.hx C.hb dw_888 (tgt := 903) rfl (fun _ => pr_goto C.hx C.hb dw_903 (tgt := 1447) rfl (pl_fg (K w2 I2))) (fun z => absurd z (by decide))
theorem pl_c14 (C : pl_C p l s m args c cells slots ρ τ D sz aV b L xs i) (I : IV w) (K : ∀ w', IV w' → pm_K p l e room_1 s m args below meth c (cells + 1) (slots + 6) Q ρ τ D sz (1447, pl_0 i, [], w')) : pm_K p l e room_1 s m args below meth c cells slots Q ρ τ D sz (906, pl_0 i, [], w) := by
  by_cases hc : ab_rok (xs (i + Int32.ofInt 2).toNatClampNeg) (xs (i + Int32.ofInt 3).toNatClampNeg)
  · obtain ⟨r, w1, k1, ⟨o0, ho⟩, k2⟩ : pm_okL w 81 150 [.ref 0, .int (xs (i + Int32.ofInt 1).toNatClampNeg), .int (xs (i + Int32.ofInt 2).toNatClampNeg), .int (xs (i + Int32.ofInt 3).toNatClampNeg)] [.ref 200, .int (xs (i + Int32.ofInt 1).toNatClampNeg), .int (xs (i + Int32.ofInt 2).toNatClampNeg), .int (xs (i + Int32.ofInt 3).toNatClampNeg)] := (I_with I).2 hc
    obtain ⟨x, hx9⟩ := pl_int rfl k1
    cases hx9
    obtain ⟨g1, w2, k3, g2, k4, g3, I2⟩ := k2 (vp_updL o0 0 x.toInt64)
    refine pm_sB_ok C.hx C.hb dw_906 rfl ?_
    refine pl_arg (kv := 1) C.hx C.hb C.hX C.hbl C.hsz C.hρ (C.hin 1 (by decide) (by decide)) rfl dw_907 dw_908 dw_910 dw_911 dw_912 ?_
    refine pl_arg (kv := 2) C.hx C.hb C.hX C.hbl C.hsz C.hρ (C.hin 2 (by decide) (by decide)) rfl dw_913 dw_914 dw_916 dw_917 dw_918 ?_
    refine pl_arg (kv := 3) C.hx C.hb C.hX C.hbl C.hsz C.hρ (C.hin 3 (by decide) (by decide)) rfl dw_919 dw_920 dw_922 dw_923 dw_924 ?_
    refine pm_sB_ok C.hx C.hb dw_925 rfl ?_
    refine pl_help (n := 5) (av := [.ref 0, .int (xs (i + Int32.ofInt 1).toNatClampNeg), .int (xs (i + Int32.ofInt 2).toNatClampNeg), .int (xs (i + Int32.ofInt 3).toNatClampNeg), .ref 300]) (rest := []) (w' := (pm_up3 w1 (vp_updL o0 0 x.toInt64))) C.hx C.hb C.hml C.hown C.hts C.hK (ph_ok6 k1 (IV.c0 I) ho) (pm_in 785 (by decide +kernel) rfl) (pm_in 783 (by decide +kernel) rfl) (pm_in 784 (by decide +kernel) rfl) (pm_in 61 (by decide +kernel) rfl) (by decide +kernel) rfl ⟨(Nat.le_of_ble_eq_true rfl), (Nat.le_of_ble_eq_true rfl)⟩ ⟨C.hc, C.hs⟩ (Nat.le_of_ble_eq_true rfl) rfl dw_926 ?_
    refine pm_sC_ok C.hx C.hb dw_929 rfl ?_
    refine pm_sB_ok C.hx C.hb dw_931 rfl ?_
    refine pl_arg (kv := 1) C.hx C.hb C.hX C.hbl C.hsz C.hρ (C.hin 1 (by decide) (by decide)) rfl dw_932 dw_933 dw_935 dw_936 dw_937 ?_
    refine pl_arg (kv := 2) C.hx C.hb C.hX C.hbl C.hsz C.hρ (C.hin 2 (by decide) (by decide)) rfl dw_938 dw_939 dw_941 dw_942 dw_943 ?_
    refine pl_arg (kv := 3) C.hx C.hb C.hX C.hbl C.hsz C.hρ (C.hin 3 (by decide) (by decide)) rfl dw_944 dw_945 dw_947 dw_948 dw_949 ?_
    refine pr_callV (own := RL) (M := 150) (a := 200) (as := [.int (xs (i + Int32.ofInt 1).toNatClampNeg), .int (xs (i + Int32.ofInt 2).toNatClampNeg), .int (xs (i + Int32.ofInt 3).toNatClampNeg)]) (rest := []) (r := some (.int x)) (w' := w2) C.hx C.hb C.hml C.hown C.hts C.hK (pm_contract (pm_ScOk_all l) ρ τ D sz aV pt_Y150 (Nat.le_of_ble_eq_true rfl) k3) pt_Y150 (pm_in 1148 (by decide +kernel) rfl) (pm_in 1149 (by decide +kernel) rfl) (pm_in 1150 (by decide +kernel) rfl) ⟨RX6, TX6, 23, rfl, rfl⟩ g1 rfl ⟨(Nat.le_of_ble_eq_true rfl), (Nat.le_of_ble_eq_true rfl)⟩ ⟨C.hc, C.hs⟩ (Nat.le_of_ble_eq_true rfl) rfl dw_950 ?_
    refine pm_sC_ok C.hx C.hb dw_953 rfl ?_
    refine pm_sB_ok C.hx C.hb dw_955 rfl ?_
    refine pr_callV (own := RL) (M := 86) (a := 200) (as := []) (rest := []) (r := some (.int 0)) (w' := w2) C.hx C.hb C.hml C.hown C.hts C.hK (pm_contract (pm_ScOk_all l) ρ τ D sz aV pt_Y86 (Nat.le_of_ble_eq_true rfl) k4) pt_Y86 (pm_in 823 (by decide +kernel) rfl) (pm_in 824 (by decide +kernel) rfl) (pm_in 825 (by decide +kernel) rfl) ⟨RX6, TX6, 23, rfl, rfl⟩ g2 rfl ⟨(Nat.le_of_ble_eq_true rfl), (Nat.le_of_ble_eq_true rfl)⟩ ⟨C.hc, C.hs⟩ (Nat.le_of_ble_eq_true rfl) rfl dw_956 ?_
    refine pm_sB_ok C.hx C.hb dw_959 rfl ?_
    refine pr_ceq C.hx C.hb dw_961 (tgt := 966) rfl (fun _ => ?_) (fun z => absurd rfl z)
    refine pm_sB_ok C.hx C.hb dw_966 rfl ?_
    refine pr_ne C.hx C.hb dw_968 (tgt := 983) rfl (fun z => absurd rfl z) (fun _ => ?_)
    refine pm_sB_ok C.hx C.hb dw_971 rfl ?_
    refine pm_sA_ok C.hx C.hb dw_972 rfl ?_
    refine pm_lald (v := .long (x.toInt64)) C.hx C.hb C.hK (by rw [g3]; rfl) dw_973 ?_
    refine pm_sB_ok C.hx C.hb dw_974 rfl ?_
    refine pm_sF_ok C.hx C.hb dw_976 rfl ?_
    refine pm_sF_ok C.hx C.hb dw_977 rfl ?_
    exact pr_eq C.hx C.hb dw_978 (tgt := 983) rfl (fun _ => pr_goto C.hx C.hb dw_983 (tgt := 1447) rfl (pl_fg (K w2 I2))) (fun z => absurd (pl_cmp _) z)
  · obtain ⟨g1, r, w2, k3, g2, k4, I2⟩ : pm_noL w 150 [.ref 200, .int (xs (i + Int32.ofInt 1).toNatClampNeg), .int (xs (i + Int32.ofInt 2).toNatClampNeg), .int (xs (i + Int32.ofInt 3).toNatClampNeg)] := (I_with I).1 hc
    obtain ⟨x, hx9⟩ := pl_int rfl k3
    cases hx9
    refine pm_sB_ok C.hx C.hb dw_906 rfl ?_
    refine pl_arg (kv := 1) C.hx C.hb C.hX C.hbl C.hsz C.hρ (C.hin 1 (by decide) (by decide)) rfl dw_907 dw_908 dw_910 dw_911 dw_912 ?_
    refine pl_arg (kv := 2) C.hx C.hb C.hX C.hbl C.hsz C.hρ (C.hin 2 (by decide) (by decide)) rfl dw_913 dw_914 dw_916 dw_917 dw_918 ?_
    refine pl_arg (kv := 3) C.hx C.hb C.hX C.hbl C.hsz C.hρ (C.hin 3 (by decide) (by decide)) rfl dw_919 dw_920 dw_922 dw_923 dw_924 ?_
    refine pm_sB_ok C.hx C.hb dw_925 rfl ?_
    refine pl_help (n := 5) (av := [.ref 0, .int (xs (i + Int32.ofInt 1).toNatClampNeg), .int (xs (i + Int32.ofInt 2).toNatClampNeg), .int (xs (i + Int32.ofInt 3).toNatClampNeg), .ref 300]) (rest := []) (w' := w) C.hx C.hb C.hml C.hown C.hts C.hK (ph_no6 (px_81 C.hlt hc) (IV.c0 I)) (pm_in 785 (by decide +kernel) rfl) (pm_in 783 (by decide +kernel) rfl) (pm_in 784 (by decide +kernel) rfl) (pm_in 61 (by decide +kernel) rfl) (by decide +kernel) rfl ⟨(Nat.le_of_ble_eq_true rfl), (Nat.le_of_ble_eq_true rfl)⟩ ⟨C.hc, C.hs⟩ (Nat.le_of_ble_eq_true rfl) rfl dw_926 ?_
    refine pm_sC_ok C.hx C.hb dw_929 rfl ?_
    refine pm_sB_ok C.hx C.hb dw_931 rfl ?_
    refine pl_arg (kv := 1) C.hx C.hb C.hX C.hbl C.hsz C.hρ (C.hin 1 (by decide) (by decide)) rfl dw_932 dw_933 dw_935 dw_936 dw_937 ?_
    refine pl_arg (kv := 2) C.hx C.hb C.hX C.hbl C.hsz C.hρ (C.hin 2 (by decide) (by decide)) rfl dw_938 dw_939 dw_941 dw_942 dw_943 ?_
    refine pl_arg (kv := 3) C.hx C.hb C.hX C.hbl C.hsz C.hρ (C.hin 3 (by decide) (by decide)) rfl dw_944 dw_945 dw_947 dw_948 dw_949 ?_
    refine pr_callV (own := RL) (M := 150) (a := 200) (as := [.int (xs (i + Int32.ofInt 1).toNatClampNeg), .int (xs (i + Int32.ofInt 2).toNatClampNeg), .int (xs (i + Int32.ofInt 3).toNatClampNeg)]) (rest := []) (r := some (.int x)) (w' := w2) C.hx C.hb C.hml C.hown C.hts C.hK (pm_contract (pm_ScOk_all l) ρ τ D sz aV pt_Y150 (Nat.le_of_ble_eq_true rfl) k3) pt_Y150 (pm_in 1148 (by decide +kernel) rfl) (pm_in 1149 (by decide +kernel) rfl) (pm_in 1150 (by decide +kernel) rfl) ⟨RX6, TX6, 23, rfl, rfl⟩ g1 rfl ⟨(Nat.le_of_ble_eq_true rfl), (Nat.le_of_ble_eq_true rfl)⟩ ⟨C.hc, C.hs⟩ (Nat.le_of_ble_eq_true rfl) rfl dw_950 ?_
    refine pm_sC_ok C.hx C.hb dw_953 rfl ?_
    refine pm_sB_ok C.hx C.hb dw_955 rfl ?_
    refine pr_callV (own := RL) (M := 86) (a := 200) (as := []) (rest := []) (r := some (.int 1)) (w' := w2) C.hx C.hb C.hml C.hown C.hts C.hK (pm_contract (pm_ScOk_all l) ρ τ D sz aV pt_Y86 (Nat.le_of_ble_eq_true rfl) k4) pt_Y86 (pm_in 823 (by decide +kernel) rfl) (pm_in 824 (by decide +kernel) rfl) (pm_in 825 (by decide +kernel) rfl) ⟨RX6, TX6, 23, rfl, rfl⟩ g2 rfl ⟨(Nat.le_of_ble_eq_true rfl), (Nat.le_of_ble_eq_true rfl)⟩ ⟨C.hc, C.hs⟩ (Nat.le_of_ble_eq_true rfl) rfl dw_956 ?_
    refine pm_sB_ok C.hx C.hb dw_959 rfl ?_
    refine pr_ceq C.hx C.hb dw_961 (tgt := 966) rfl (fun _ => ?_) (fun z => absurd rfl z)
    refine pm_sB_ok C.hx C.hb dw_966 rfl ?_
    exact pr_ne C.hx C.hb dw_968 (tgt := 983) rfl (fun _ => pr_goto C.hx C.hb dw_983 (tgt := 1447) rfl (pl_fg (K w2 I2))) (fun z => absurd z (by decide))
theorem pl_c15 (C : pl_C p l s m args c cells slots ρ τ D sz aV b L xs i) (I : IV w) (K : ∀ w', IV w' → pm_K p l e room_1 s m args below meth c (cells + 1) (slots + 6) Q ρ τ D sz (1447, pl_0 i, [], w')) : pm_K p l e room_1 s m args below meth c cells slots Q ρ τ D sz (986, pl_0 i, [], w) := by
  by_cases hc : ab_rok (xs (i + Int32.ofInt 3).toNatClampNeg) (xs (i + Int32.ofInt 4).toNatClampNeg)
  · obtain ⟨r, w1, k1, ⟨o0, ho⟩, k2⟩ : pm_okL w 82 152 [.ref 0, .int (xs (i + Int32.ofInt 1).toNatClampNeg), .int (xs (i + Int32.ofInt 2).toNatClampNeg), .int (xs (i + Int32.ofInt 3).toNatClampNeg), .int (xs (i + Int32.ofInt 4).toNatClampNeg)] [.ref 200, .int (xs (i + Int32.ofInt 1).toNatClampNeg), .int (xs (i + Int32.ofInt 2).toNatClampNeg), .int (xs (i + Int32.ofInt 3).toNatClampNeg), .int (xs (i + Int32.ofInt 4).toNatClampNeg)] := (I_priced I).2 hc
    obtain ⟨x, hx9⟩ := pl_int rfl k1
    cases hx9
    obtain ⟨g1, w2, k3, g2, k4, g3, I2⟩ := k2 (vp_updL o0 0 x.toInt64)
    refine pm_sB_ok C.hx C.hb dw_986 rfl ?_
    refine pl_arg (kv := 1) C.hx C.hb C.hX C.hbl C.hsz C.hρ (C.hin 1 (by decide) (by decide)) rfl dw_987 dw_988 dw_990 dw_991 dw_992 ?_
    refine pl_arg (kv := 2) C.hx C.hb C.hX C.hbl C.hsz C.hρ (C.hin 2 (by decide) (by decide)) rfl dw_993 dw_994 dw_996 dw_997 dw_998 ?_
    refine pl_arg (kv := 3) C.hx C.hb C.hX C.hbl C.hsz C.hρ (C.hin 3 (by decide) (by decide)) rfl dw_999 dw_1000 dw_1002 dw_1003 dw_1004 ?_
    refine pl_arg (kv := 4) C.hx C.hb C.hX C.hbl C.hsz C.hρ (C.hin 4 (by decide) (by decide)) rfl dw_1005 dw_1006 dw_1008 dw_1009 dw_1010 ?_
    refine pm_sB_ok C.hx C.hb dw_1011 rfl ?_
    refine pl_help (n := 6) (av := [.ref 0, .int (xs (i + Int32.ofInt 1).toNatClampNeg), .int (xs (i + Int32.ofInt 2).toNatClampNeg), .int (xs (i + Int32.ofInt 3).toNatClampNeg), .int (xs (i + Int32.ofInt 4).toNatClampNeg), .ref 300]) (rest := []) (w' := (pm_up3 w1 (vp_updL o0 0 x.toInt64))) C.hx C.hb C.hml C.hown C.hts C.hK (ph_ok7 k1 (IV.c0 I) ho) (pm_in 796 (by decide +kernel) rfl) (pm_in 794 (by decide +kernel) rfl) (pm_in 795 (by decide +kernel) rfl) (pm_in 61 (by decide +kernel) rfl) (by decide +kernel) rfl ⟨(Nat.le_of_ble_eq_true rfl), (Nat.le_of_ble_eq_true rfl)⟩ ⟨C.hc, C.hs⟩ (Nat.le_of_ble_eq_true rfl) rfl dw_1012 ?_
    refine pm_sC_ok C.hx C.hb dw_1015 rfl ?_
    refine pm_sB_ok C.hx C.hb dw_1017 rfl ?_
    refine pl_arg (kv := 1) C.hx C.hb C.hX C.hbl C.hsz C.hρ (C.hin 1 (by decide) (by decide)) rfl dw_1018 dw_1019 dw_1021 dw_1022 dw_1023 ?_
    refine pl_arg (kv := 2) C.hx C.hb C.hX C.hbl C.hsz C.hρ (C.hin 2 (by decide) (by decide)) rfl dw_1024 dw_1025 dw_1027 dw_1028 dw_1029 ?_
    refine pl_arg (kv := 3) C.hx C.hb C.hX C.hbl C.hsz C.hρ (C.hin 3 (by decide) (by decide)) rfl dw_1030 dw_1031 dw_1033 dw_1034 dw_1035 ?_
    refine pl_arg (kv := 4) C.hx C.hb C.hX C.hbl C.hsz C.hρ (C.hin 4 (by decide) (by decide)) rfl dw_1036 dw_1037 dw_1039 dw_1040 dw_1041 ?_
    refine pr_callV (own := RL) (M := 152) (a := 200) (as := [.int (xs (i + Int32.ofInt 1).toNatClampNeg), .int (xs (i + Int32.ofInt 2).toNatClampNeg), .int (xs (i + Int32.ofInt 3).toNatClampNeg), .int (xs (i + Int32.ofInt 4).toNatClampNeg)]) (rest := []) (r := some (.int x)) (w' := w2) C.hx C.hb C.hml C.hown C.hts C.hK (pm_contract (pm_ScOk_all l) ρ τ D sz aV pt_Y152 (Nat.le_of_ble_eq_true rfl) k3) pt_Y152 (pm_in 1155 (by decide +kernel) rfl) (pm_in 1156 (by decide +kernel) rfl) (pm_in 1157 (by decide +kernel) rfl) ⟨RX6, TX6, 23, rfl, rfl⟩ g1 rfl ⟨(Nat.le_of_ble_eq_true rfl), (Nat.le_of_ble_eq_true rfl)⟩ ⟨C.hc, C.hs⟩ (Nat.le_of_ble_eq_true rfl) rfl dw_1042 ?_
    refine pm_sC_ok C.hx C.hb dw_1045 rfl ?_
    refine pm_sB_ok C.hx C.hb dw_1047 rfl ?_
    refine pr_callV (own := RL) (M := 86) (a := 200) (as := []) (rest := []) (r := some (.int 0)) (w' := w2) C.hx C.hb C.hml C.hown C.hts C.hK (pm_contract (pm_ScOk_all l) ρ τ D sz aV pt_Y86 (Nat.le_of_ble_eq_true rfl) k4) pt_Y86 (pm_in 823 (by decide +kernel) rfl) (pm_in 824 (by decide +kernel) rfl) (pm_in 825 (by decide +kernel) rfl) ⟨RX6, TX6, 23, rfl, rfl⟩ g2 rfl ⟨(Nat.le_of_ble_eq_true rfl), (Nat.le_of_ble_eq_true rfl)⟩ ⟨C.hc, C.hs⟩ (Nat.le_of_ble_eq_true rfl) rfl dw_1048 ?_
    refine pm_sB_ok C.hx C.hb dw_1051 rfl ?_
    refine pr_ceq C.hx C.hb dw_1053 (tgt := 1058) rfl (fun _ => ?_) (fun z => absurd rfl z)
    refine pm_sB_ok C.hx C.hb dw_1058 rfl ?_
    refine pr_ne C.hx C.hb dw_1060 (tgt := 1075) rfl (fun z => absurd rfl z) (fun _ => ?_)
    refine pm_sB_ok C.hx C.hb dw_1063 rfl ?_
    refine pm_sA_ok C.hx C.hb dw_1064 rfl ?_
    refine pm_lald (v := .long (x.toInt64)) C.hx C.hb C.hK (by rw [g3]; rfl) dw_1065 ?_
    refine pm_sB_ok C.hx C.hb dw_1066 rfl ?_
    refine pm_sF_ok C.hx C.hb dw_1068 rfl ?_
    refine pm_sF_ok C.hx C.hb dw_1069 rfl ?_
    exact pr_eq C.hx C.hb dw_1070 (tgt := 1075) rfl (fun _ => pr_goto C.hx C.hb dw_1075 (tgt := 1447) rfl (pl_fg (K w2 I2))) (fun z => absurd (pl_cmp _) z)
  · obtain ⟨g1, r, w2, k3, g2, k4, I2⟩ : pm_noL w 152 [.ref 200, .int (xs (i + Int32.ofInt 1).toNatClampNeg), .int (xs (i + Int32.ofInt 2).toNatClampNeg), .int (xs (i + Int32.ofInt 3).toNatClampNeg), .int (xs (i + Int32.ofInt 4).toNatClampNeg)] := (I_priced I).1 hc
    obtain ⟨x, hx9⟩ := pl_int rfl k3
    cases hx9
    refine pm_sB_ok C.hx C.hb dw_986 rfl ?_
    refine pl_arg (kv := 1) C.hx C.hb C.hX C.hbl C.hsz C.hρ (C.hin 1 (by decide) (by decide)) rfl dw_987 dw_988 dw_990 dw_991 dw_992 ?_
    refine pl_arg (kv := 2) C.hx C.hb C.hX C.hbl C.hsz C.hρ (C.hin 2 (by decide) (by decide)) rfl dw_993 dw_994 dw_996 dw_997 dw_998 ?_
    refine pl_arg (kv := 3) C.hx C.hb C.hX C.hbl C.hsz C.hρ (C.hin 3 (by decide) (by decide)) rfl dw_999 dw_1000 dw_1002 dw_1003 dw_1004 ?_
    refine pl_arg (kv := 4) C.hx C.hb C.hX C.hbl C.hsz C.hρ (C.hin 4 (by decide) (by decide)) rfl dw_1005 dw_1006 dw_1008 dw_1009 dw_1010 ?_
    refine pm_sB_ok C.hx C.hb dw_1011 rfl ?_
    refine pl_help (n := 6) (av := [.ref 0, .int (xs (i + Int32.ofInt 1).toNatClampNeg), .int (xs (i + Int32.ofInt 2).toNatClampNeg), .int (xs (i + Int32.ofInt 3).toNatClampNeg), .int (xs (i + Int32.ofInt 4).toNatClampNeg), .ref 300]) (rest := []) (w' := w) C.hx C.hb C.hml C.hown C.hts C.hK (ph_no7 (px_82 C.hlt hc) (IV.c0 I)) (pm_in 796 (by decide +kernel) rfl) (pm_in 794 (by decide +kernel) rfl) (pm_in 795 (by decide +kernel) rfl) (pm_in 61 (by decide +kernel) rfl) (by decide +kernel) rfl ⟨(Nat.le_of_ble_eq_true rfl), (Nat.le_of_ble_eq_true rfl)⟩ ⟨C.hc, C.hs⟩ (Nat.le_of_ble_eq_true rfl) rfl dw_1012 ?_
    refine pm_sC_ok C.hx C.hb dw_1015 rfl ?_
    refine pm_sB_ok C.hx C.hb dw_1017 rfl ?_
    refine pl_arg (kv := 1) C.hx C.hb C.hX C.hbl C.hsz C.hρ (C.hin 1 (by decide) (by decide)) rfl dw_1018 dw_1019 dw_1021 dw_1022 dw_1023 ?_
    refine pl_arg (kv := 2) C.hx C.hb C.hX C.hbl C.hsz C.hρ (C.hin 2 (by decide) (by decide)) rfl dw_1024 dw_1025 dw_1027 dw_1028 dw_1029 ?_
    refine pl_arg (kv := 3) C.hx C.hb C.hX C.hbl C.hsz C.hρ (C.hin 3 (by decide) (by decide)) rfl dw_1030 dw_1031 dw_1033 dw_1034 dw_1035 ?_
    refine pl_arg (kv := 4) C.hx C.hb C.hX C.hbl C.hsz C.hρ (C.hin 4 (by decide) (by decide)) rfl dw_1036 dw_1037 dw_1039 dw_1040 dw_1041 ?_
    refine pr_callV (own := RL) (M := 152) (a := 200) (as := [.int (xs (i + Int32.ofInt 1).toNatClampNeg), .int (xs (i + Int32.ofInt 2).toNatClampNeg), .int (xs (i + Int32.ofInt 3).toNatClampNeg), .int (xs (i + Int32.ofInt 4).toNatClampNeg)]) (rest := []) (r := some (.int x)) (w' := w2) C.hx C.hb C.hml C.hown C.hts C.hK (pm_contract (pm_ScOk_all l) ρ τ D sz aV pt_Y152 (Nat.le_of_ble_eq_true rfl) k3) pt_Y152 (pm_in 1155 (by decide +kernel) rfl) (pm_in 1156 (by decide +kernel) rfl) (pm_in 1157 (by decide +kernel) rfl) ⟨RX6, TX6, 23, rfl, rfl⟩ g1 rfl ⟨(Nat.le_of_ble_eq_true rfl), (Nat.le_of_ble_eq_true rfl)⟩ ⟨C.hc, C.hs⟩ (Nat.le_of_ble_eq_true rfl) rfl dw_1042 ?_
    refine pm_sC_ok C.hx C.hb dw_1045 rfl ?_
    refine pm_sB_ok C.hx C.hb dw_1047 rfl ?_
    refine pr_callV (own := RL) (M := 86) (a := 200) (as := []) (rest := []) (r := some (.int 1)) (w' := w2) C.hx C.hb C.hml C.hown C.hts C.hK (pm_contract (pm_ScOk_all l) ρ τ D sz aV pt_Y86 (Nat.le_of_ble_eq_true rfl) k4) pt_Y86 (pm_in 823 (by decide +kernel) rfl) (pm_in 824 (by decide +kernel) rfl) (pm_in 825 (by decide +kernel) rfl) ⟨RX6, TX6, 23, rfl, rfl⟩ g2 rfl ⟨(Nat.le_of_ble_eq_true rfl), (Nat.le_of_ble_eq_true rfl)⟩ ⟨C.hc, C.hs⟩ (Nat.le_of_ble_eq_true rfl) rfl dw_1048 ?_
    refine pm_sB_ok C.hx C.hb dw_1051 rfl ?_
    refine pr_ceq C.hx C.hb dw_1053 (tgt := 1058) rfl (fun _ => ?_) (fun z => absurd rfl z)
    refine pm_sB_ok C.hx C.hb dw_1058 rfl ?_
    exact pr_ne C.hx C.hb dw_1060 (tgt := 1075) rfl (fun _ => pr_goto C.hx C.hb dw_1075 (tgt := 1447) rfl (pl_fg (K w2 I2))) (fun z => absurd z (by decide))
theorem pl_c16 (C : pl_C p l s m args c cells slots ρ τ D sz aV b L xs i) (I : IV w) (K : ∀ w', IV w' → pm_K p l e room_1 s m args below meth c (cells + 1) (slots + 6) Q ρ τ D sz (1447, pl_0 i, [], w')) : pm_K p l e room_1 s m args below meth c cells slots Q ρ τ D sz (1078, pl_0 i, [], w) := by
  by_cases hc : ab_rok (xs (i + Int32.ofInt 3).toNatClampNeg) (xs (i + Int32.ofInt 4).toNatClampNeg)
  · obtain ⟨r, w1, k1, ⟨o0, ho⟩, k2⟩ : pm_okL w 83 154 [.ref 0, .int (xs (i + Int32.ofInt 1).toNatClampNeg), .int (xs (i + Int32.ofInt 2).toNatClampNeg), .int (xs (i + Int32.ofInt 3).toNatClampNeg), .int (xs (i + Int32.ofInt 4).toNatClampNeg)] [.ref 200, .int (xs (i + Int32.ofInt 1).toNatClampNeg), .int (xs (i + Int32.ofInt 2).toNatClampNeg), .int (xs (i + Int32.ofInt 3).toNatClampNeg), .int (xs (i + Int32.ofInt 4).toNatClampNeg)] := (I_profit I).2 hc
    obtain ⟨x, hx9⟩ := pl_int rfl k1
    cases hx9
    obtain ⟨g1, w2, k3, g2, k4, g3, I2⟩ := k2 (vp_updL o0 0 x.toInt64)
    refine pm_sB_ok C.hx C.hb dw_1078 rfl ?_
    refine pl_arg (kv := 1) C.hx C.hb C.hX C.hbl C.hsz C.hρ (C.hin 1 (by decide) (by decide)) rfl dw_1079 dw_1080 dw_1082 dw_1083 dw_1084 ?_
    refine pl_arg (kv := 2) C.hx C.hb C.hX C.hbl C.hsz C.hρ (C.hin 2 (by decide) (by decide)) rfl dw_1085 dw_1086 dw_1088 dw_1089 dw_1090 ?_
    refine pl_arg (kv := 3) C.hx C.hb C.hX C.hbl C.hsz C.hρ (C.hin 3 (by decide) (by decide)) rfl dw_1091 dw_1092 dw_1094 dw_1095 dw_1096 ?_
    refine pl_arg (kv := 4) C.hx C.hb C.hX C.hbl C.hsz C.hρ (C.hin 4 (by decide) (by decide)) rfl dw_1097 dw_1098 dw_1100 dw_1101 dw_1102 ?_
    refine pm_sB_ok C.hx C.hb dw_1103 rfl ?_
    refine pl_help (n := 6) (av := [.ref 0, .int (xs (i + Int32.ofInt 1).toNatClampNeg), .int (xs (i + Int32.ofInt 2).toNatClampNeg), .int (xs (i + Int32.ofInt 3).toNatClampNeg), .int (xs (i + Int32.ofInt 4).toNatClampNeg), .ref 300]) (rest := []) (w' := (pm_up3 w1 (vp_updL o0 0 x.toInt64))) C.hx C.hb C.hml C.hown C.hts C.hK (ph_ok8 k1 (IV.c0 I) ho) (pm_in 803 (by decide +kernel) rfl) (pm_in 801 (by decide +kernel) rfl) (pm_in 802 (by decide +kernel) rfl) (pm_in 61 (by decide +kernel) rfl) (by decide +kernel) rfl ⟨(Nat.le_of_ble_eq_true rfl), (Nat.le_of_ble_eq_true rfl)⟩ ⟨C.hc, C.hs⟩ (Nat.le_of_ble_eq_true rfl) rfl dw_1104 ?_
    refine pm_sC_ok C.hx C.hb dw_1107 rfl ?_
    refine pm_sB_ok C.hx C.hb dw_1109 rfl ?_
    refine pl_arg (kv := 1) C.hx C.hb C.hX C.hbl C.hsz C.hρ (C.hin 1 (by decide) (by decide)) rfl dw_1110 dw_1111 dw_1113 dw_1114 dw_1115 ?_
    refine pl_arg (kv := 2) C.hx C.hb C.hX C.hbl C.hsz C.hρ (C.hin 2 (by decide) (by decide)) rfl dw_1116 dw_1117 dw_1119 dw_1120 dw_1121 ?_
    refine pl_arg (kv := 3) C.hx C.hb C.hX C.hbl C.hsz C.hρ (C.hin 3 (by decide) (by decide)) rfl dw_1122 dw_1123 dw_1125 dw_1126 dw_1127 ?_
    refine pl_arg (kv := 4) C.hx C.hb C.hX C.hbl C.hsz C.hρ (C.hin 4 (by decide) (by decide)) rfl dw_1128 dw_1129 dw_1131 dw_1132 dw_1133 ?_
    refine pr_callV (own := RL) (M := 154) (a := 200) (as := [.int (xs (i + Int32.ofInt 1).toNatClampNeg), .int (xs (i + Int32.ofInt 2).toNatClampNeg), .int (xs (i + Int32.ofInt 3).toNatClampNeg), .int (xs (i + Int32.ofInt 4).toNatClampNeg)]) (rest := []) (r := some (.int x)) (w' := w2) C.hx C.hb C.hml C.hown C.hts C.hK (pm_contract (pm_ScOk_all l) ρ τ D sz aV pt_Y154 (Nat.le_of_ble_eq_true rfl) k3) pt_Y154 (pm_in 1163 (by decide +kernel) rfl) (pm_in 1164 (by decide +kernel) rfl) (pm_in 1165 (by decide +kernel) rfl) ⟨RX6, TX6, 23, rfl, rfl⟩ g1 rfl ⟨(Nat.le_of_ble_eq_true rfl), (Nat.le_of_ble_eq_true rfl)⟩ ⟨C.hc, C.hs⟩ (Nat.le_of_ble_eq_true rfl) rfl dw_1134 ?_
    refine pm_sC_ok C.hx C.hb dw_1137 rfl ?_
    refine pm_sB_ok C.hx C.hb dw_1139 rfl ?_
    refine pr_callV (own := RL) (M := 86) (a := 200) (as := []) (rest := []) (r := some (.int 0)) (w' := w2) C.hx C.hb C.hml C.hown C.hts C.hK (pm_contract (pm_ScOk_all l) ρ τ D sz aV pt_Y86 (Nat.le_of_ble_eq_true rfl) k4) pt_Y86 (pm_in 823 (by decide +kernel) rfl) (pm_in 824 (by decide +kernel) rfl) (pm_in 825 (by decide +kernel) rfl) ⟨RX6, TX6, 23, rfl, rfl⟩ g2 rfl ⟨(Nat.le_of_ble_eq_true rfl), (Nat.le_of_ble_eq_true rfl)⟩ ⟨C.hc, C.hs⟩ (Nat.le_of_ble_eq_true rfl) rfl dw_1140 ?_
    refine pm_sB_ok C.hx C.hb dw_1143 rfl ?_
    refine pr_ceq C.hx C.hb dw_1145 (tgt := 1150) rfl (fun _ => ?_) (fun z => absurd rfl z)
    refine pm_sB_ok C.hx C.hb dw_1150 rfl ?_
    refine pr_ne C.hx C.hb dw_1152 (tgt := 1167) rfl (fun z => absurd rfl z) (fun _ => ?_)
    refine pm_sB_ok C.hx C.hb dw_1155 rfl ?_
    refine pm_sA_ok C.hx C.hb dw_1156 rfl ?_
    refine pm_lald (v := .long (x.toInt64)) C.hx C.hb C.hK (by rw [g3]; rfl) dw_1157 ?_
    refine pm_sB_ok C.hx C.hb dw_1158 rfl ?_
    refine pm_sF_ok C.hx C.hb dw_1160 rfl ?_
    refine pm_sF_ok C.hx C.hb dw_1161 rfl ?_
    exact pr_eq C.hx C.hb dw_1162 (tgt := 1167) rfl (fun _ => pr_goto C.hx C.hb dw_1167 (tgt := 1447) rfl (pl_fg (K w2 I2))) (fun z => absurd (pl_cmp _) z)
  · obtain ⟨g1, r, w2, k3, g2, k4, I2⟩ : pm_noL w 154 [.ref 200, .int (xs (i + Int32.ofInt 1).toNatClampNeg), .int (xs (i + Int32.ofInt 2).toNatClampNeg), .int (xs (i + Int32.ofInt 3).toNatClampNeg), .int (xs (i + Int32.ofInt 4).toNatClampNeg)] := (I_profit I).1 hc
    obtain ⟨x, hx9⟩ := pl_int rfl k3
    cases hx9
    refine pm_sB_ok C.hx C.hb dw_1078 rfl ?_
    refine pl_arg (kv := 1) C.hx C.hb C.hX C.hbl C.hsz C.hρ (C.hin 1 (by decide) (by decide)) rfl dw_1079 dw_1080 dw_1082 dw_1083 dw_1084 ?_
    refine pl_arg (kv := 2) C.hx C.hb C.hX C.hbl C.hsz C.hρ (C.hin 2 (by decide) (by decide)) rfl dw_1085 dw_1086 dw_1088 dw_1089 dw_1090 ?_
    refine pl_arg (kv := 3) C.hx C.hb C.hX C.hbl C.hsz C.hρ (C.hin 3 (by decide) (by decide)) rfl dw_1091 dw_1092 dw_1094 dw_1095 dw_1096 ?_
    refine pl_arg (kv := 4) C.hx C.hb C.hX C.hbl C.hsz C.hρ (C.hin 4 (by decide) (by decide)) rfl dw_1097 dw_1098 dw_1100 dw_1101 dw_1102 ?_
    refine pm_sB_ok C.hx C.hb dw_1103 rfl ?_
    refine pl_help (n := 6) (av := [.ref 0, .int (xs (i + Int32.ofInt 1).toNatClampNeg), .int (xs (i + Int32.ofInt 2).toNatClampNeg), .int (xs (i + Int32.ofInt 3).toNatClampNeg), .int (xs (i + Int32.ofInt 4).toNatClampNeg), .ref 300]) (rest := []) (w' := w) C.hx C.hb C.hml C.hown C.hts C.hK (ph_no8 (px_83 C.hlt hc) (IV.c0 I)) (pm_in 803 (by decide +kernel) rfl) (pm_in 801 (by decide +kernel) rfl) (pm_in 802 (by decide +kernel) rfl) (pm_in 61 (by decide +kernel) rfl) (by decide +kernel) rfl ⟨(Nat.le_of_ble_eq_true rfl), (Nat.le_of_ble_eq_true rfl)⟩ ⟨C.hc, C.hs⟩ (Nat.le_of_ble_eq_true rfl) rfl dw_1104 ?_
    refine pm_sC_ok C.hx C.hb dw_1107 rfl ?_
    refine pm_sB_ok C.hx C.hb dw_1109 rfl ?_
    refine pl_arg (kv := 1) C.hx C.hb C.hX C.hbl C.hsz C.hρ (C.hin 1 (by decide) (by decide)) rfl dw_1110 dw_1111 dw_1113 dw_1114 dw_1115 ?_
    refine pl_arg (kv := 2) C.hx C.hb C.hX C.hbl C.hsz C.hρ (C.hin 2 (by decide) (by decide)) rfl dw_1116 dw_1117 dw_1119 dw_1120 dw_1121 ?_
    refine pl_arg (kv := 3) C.hx C.hb C.hX C.hbl C.hsz C.hρ (C.hin 3 (by decide) (by decide)) rfl dw_1122 dw_1123 dw_1125 dw_1126 dw_1127 ?_
    refine pl_arg (kv := 4) C.hx C.hb C.hX C.hbl C.hsz C.hρ (C.hin 4 (by decide) (by decide)) rfl dw_1128 dw_1129 dw_1131 dw_1132 dw_1133 ?_
    refine pr_callV (own := RL) (M := 154) (a := 200) (as := [.int (xs (i + Int32.ofInt 1).toNatClampNeg), .int (xs (i + Int32.ofInt 2).toNatClampNeg), .int (xs (i + Int32.ofInt 3).toNatClampNeg), .int (xs (i + Int32.ofInt 4).toNatClampNeg)]) (rest := []) (r := some (.int x)) (w' := w2) C.hx C.hb C.hml C.hown C.hts C.hK (pm_contract (pm_ScOk_all l) ρ τ D sz aV pt_Y154 (Nat.le_of_ble_eq_true rfl) k3) pt_Y154 (pm_in 1163 (by decide +kernel) rfl) (pm_in 1164 (by decide +kernel) rfl) (pm_in 1165 (by decide +kernel) rfl) ⟨RX6, TX6, 23, rfl, rfl⟩ g1 rfl ⟨(Nat.le_of_ble_eq_true rfl), (Nat.le_of_ble_eq_true rfl)⟩ ⟨C.hc, C.hs⟩ (Nat.le_of_ble_eq_true rfl) rfl dw_1134 ?_
    refine pm_sC_ok C.hx C.hb dw_1137 rfl ?_
    refine pm_sB_ok C.hx C.hb dw_1139 rfl ?_
    refine pr_callV (own := RL) (M := 86) (a := 200) (as := []) (rest := []) (r := some (.int 1)) (w' := w2) C.hx C.hb C.hml C.hown C.hts C.hK (pm_contract (pm_ScOk_all l) ρ τ D sz aV pt_Y86 (Nat.le_of_ble_eq_true rfl) k4) pt_Y86 (pm_in 823 (by decide +kernel) rfl) (pm_in 824 (by decide +kernel) rfl) (pm_in 825 (by decide +kernel) rfl) ⟨RX6, TX6, 23, rfl, rfl⟩ g2 rfl ⟨(Nat.le_of_ble_eq_true rfl), (Nat.le_of_ble_eq_true rfl)⟩ ⟨C.hc, C.hs⟩ (Nat.le_of_ble_eq_true rfl) rfl dw_1140 ?_
    refine pm_sB_ok C.hx C.hb dw_1143 rfl ?_
    refine pr_ceq C.hx C.hb dw_1145 (tgt := 1150) rfl (fun _ => ?_) (fun z => absurd rfl z)
    refine pm_sB_ok C.hx C.hb dw_1150 rfl ?_
    exact pr_ne C.hx C.hb dw_1152 (tgt := 1167) rfl (fun _ => pr_goto C.hx C.hb dw_1167 (tgt := 1447) rfl (pl_fg (K w2 I2))) (fun z => absurd z (by decide))
theorem pl_c17 (C : pl_C p l s m args c cells slots ρ τ D sz aV b L xs i) (I : IV w) (K : ∀ w', IV w' → pm_K p l e room_1 s m args below meth c (cells + 1) (slots + 6) Q ρ τ D sz (1447, pl_0 i, [], w')) : pm_K p l e room_1 s m args below meth c cells slots Q ρ τ D sz (1170, pl_0 i, [], w) := by
  by_cases hc : ab_rok (xs (i + Int32.ofInt 2).toNatClampNeg) (xs (i + Int32.ofInt 3).toNatClampNeg)
  · obtain ⟨r, w1, k1, ⟨o0, ho⟩, k2⟩ : pm_okL w 85 155 [.ref 0, .int (xs (i + Int32.ofInt 1).toNatClampNeg), .int (xs (i + Int32.ofInt 2).toNatClampNeg), .int (xs (i + Int32.ofInt 3).toNatClampNeg)] [.ref 200, .int (xs (i + Int32.ofInt 1).toNatClampNeg), .int (xs (i + Int32.ofInt 2).toNatClampNeg), .int (xs (i + Int32.ofInt 3).toNatClampNeg)] := (I_ifSplit I).2 hc
    obtain ⟨x, hx9⟩ := pl_int rfl k1
    cases hx9
    obtain ⟨g1, w2, k3, g2, k4, g3, I2⟩ := k2 (vp_updL o0 0 x.toInt64)
    refine pm_sB_ok C.hx C.hb dw_1170 rfl ?_
    refine pl_arg (kv := 1) C.hx C.hb C.hX C.hbl C.hsz C.hρ (C.hin 1 (by decide) (by decide)) rfl dw_1171 dw_1172 dw_1174 dw_1175 dw_1176 ?_
    refine pl_arg (kv := 2) C.hx C.hb C.hX C.hbl C.hsz C.hρ (C.hin 2 (by decide) (by decide)) rfl dw_1177 dw_1178 dw_1180 dw_1181 dw_1182 ?_
    refine pl_arg (kv := 3) C.hx C.hb C.hX C.hbl C.hsz C.hρ (C.hin 3 (by decide) (by decide)) rfl dw_1183 dw_1184 dw_1186 dw_1187 dw_1188 ?_
    refine pm_sB_ok C.hx C.hb dw_1189 rfl ?_
    refine pl_help (n := 5) (av := [.ref 0, .int (xs (i + Int32.ofInt 1).toNatClampNeg), .int (xs (i + Int32.ofInt 2).toNatClampNeg), .int (xs (i + Int32.ofInt 3).toNatClampNeg), .ref 300]) (rest := []) (w' := (pm_up3 w1 (vp_updL o0 0 x.toInt64))) C.hx C.hb C.hml C.hown C.hts C.hK (ph_ok9 k1 (IV.c0 I) ho) (pm_in 817 (by decide +kernel) rfl) (pm_in 815 (by decide +kernel) rfl) (pm_in 816 (by decide +kernel) rfl) (pm_in 61 (by decide +kernel) rfl) (by decide +kernel) rfl ⟨(Nat.le_of_ble_eq_true rfl), (Nat.le_of_ble_eq_true rfl)⟩ ⟨C.hc, C.hs⟩ (Nat.le_of_ble_eq_true rfl) rfl dw_1190 ?_
    refine pm_sC_ok C.hx C.hb dw_1193 rfl ?_
    refine pm_sB_ok C.hx C.hb dw_1195 rfl ?_
    refine pl_arg (kv := 1) C.hx C.hb C.hX C.hbl C.hsz C.hρ (C.hin 1 (by decide) (by decide)) rfl dw_1196 dw_1197 dw_1199 dw_1200 dw_1201 ?_
    refine pl_arg (kv := 2) C.hx C.hb C.hX C.hbl C.hsz C.hρ (C.hin 2 (by decide) (by decide)) rfl dw_1202 dw_1203 dw_1205 dw_1206 dw_1207 ?_
    refine pl_arg (kv := 3) C.hx C.hb C.hX C.hbl C.hsz C.hρ (C.hin 3 (by decide) (by decide)) rfl dw_1208 dw_1209 dw_1211 dw_1212 dw_1213 ?_
    refine pr_callV (own := RL) (M := 155) (a := 200) (as := [.int (xs (i + Int32.ofInt 1).toNatClampNeg), .int (xs (i + Int32.ofInt 2).toNatClampNeg), .int (xs (i + Int32.ofInt 3).toNatClampNeg)]) (rest := []) (r := some (.int x)) (w' := w2) C.hx C.hb C.hml C.hown C.hts C.hK (pm_contract (pm_ScOk_all l) ρ τ D sz aV pt_Y155 (Nat.le_of_ble_eq_true rfl) k3) pt_Y155 (pm_in 1167 (by decide +kernel) rfl) (pm_in 1168 (by decide +kernel) rfl) (pm_in 1169 (by decide +kernel) rfl) ⟨RX6, TX6, 23, rfl, rfl⟩ g1 rfl ⟨(Nat.le_of_ble_eq_true rfl), (Nat.le_of_ble_eq_true rfl)⟩ ⟨C.hc, C.hs⟩ (Nat.le_of_ble_eq_true rfl) rfl dw_1214 ?_
    refine pm_sC_ok C.hx C.hb dw_1217 rfl ?_
    refine pm_sB_ok C.hx C.hb dw_1219 rfl ?_
    refine pr_callV (own := RL) (M := 86) (a := 200) (as := []) (rest := []) (r := some (.int 0)) (w' := w2) C.hx C.hb C.hml C.hown C.hts C.hK (pm_contract (pm_ScOk_all l) ρ τ D sz aV pt_Y86 (Nat.le_of_ble_eq_true rfl) k4) pt_Y86 (pm_in 823 (by decide +kernel) rfl) (pm_in 824 (by decide +kernel) rfl) (pm_in 825 (by decide +kernel) rfl) ⟨RX6, TX6, 23, rfl, rfl⟩ g2 rfl ⟨(Nat.le_of_ble_eq_true rfl), (Nat.le_of_ble_eq_true rfl)⟩ ⟨C.hc, C.hs⟩ (Nat.le_of_ble_eq_true rfl) rfl dw_1220 ?_
    refine pm_sB_ok C.hx C.hb dw_1223 rfl ?_
    refine pr_ceq C.hx C.hb dw_1225 (tgt := 1230) rfl (fun _ => ?_) (fun z => absurd rfl z)
    refine pm_sB_ok C.hx C.hb dw_1230 rfl ?_
    refine pr_ne C.hx C.hb dw_1232 (tgt := 1247) rfl (fun z => absurd rfl z) (fun _ => ?_)
    refine pm_sB_ok C.hx C.hb dw_1235 rfl ?_
    refine pm_sA_ok C.hx C.hb dw_1236 rfl ?_
    refine pm_lald (v := .long (x.toInt64)) C.hx C.hb C.hK (by rw [g3]; rfl) dw_1237 ?_
    refine pm_sB_ok C.hx C.hb dw_1238 rfl ?_
    refine pm_sF_ok C.hx C.hb dw_1240 rfl ?_
    refine pm_sF_ok C.hx C.hb dw_1241 rfl ?_
    exact pr_eq C.hx C.hb dw_1242 (tgt := 1247) rfl (fun _ => pr_goto C.hx C.hb dw_1247 (tgt := 1447) rfl (pl_fg (K w2 I2))) (fun z => absurd (pl_cmp _) z)
  · obtain ⟨g1, r, w2, k3, g2, k4, I2⟩ : pm_noL w 155 [.ref 200, .int (xs (i + Int32.ofInt 1).toNatClampNeg), .int (xs (i + Int32.ofInt 2).toNatClampNeg), .int (xs (i + Int32.ofInt 3).toNatClampNeg)] := (I_ifSplit I).1 hc
    obtain ⟨x, hx9⟩ := pl_int rfl k3
    cases hx9
    refine pm_sB_ok C.hx C.hb dw_1170 rfl ?_
    refine pl_arg (kv := 1) C.hx C.hb C.hX C.hbl C.hsz C.hρ (C.hin 1 (by decide) (by decide)) rfl dw_1171 dw_1172 dw_1174 dw_1175 dw_1176 ?_
    refine pl_arg (kv := 2) C.hx C.hb C.hX C.hbl C.hsz C.hρ (C.hin 2 (by decide) (by decide)) rfl dw_1177 dw_1178 dw_1180 dw_1181 dw_1182 ?_
    refine pl_arg (kv := 3) C.hx C.hb C.hX C.hbl C.hsz C.hρ (C.hin 3 (by decide) (by decide)) rfl dw_1183 dw_1184 dw_1186 dw_1187 dw_1188 ?_
    refine pm_sB_ok C.hx C.hb dw_1189 rfl ?_
    refine pl_help (n := 5) (av := [.ref 0, .int (xs (i + Int32.ofInt 1).toNatClampNeg), .int (xs (i + Int32.ofInt 2).toNatClampNeg), .int (xs (i + Int32.ofInt 3).toNatClampNeg), .ref 300]) (rest := []) (w' := w) C.hx C.hb C.hml C.hown C.hts C.hK (ph_no9 (px_85 C.hlt hc) (IV.c0 I)) (pm_in 817 (by decide +kernel) rfl) (pm_in 815 (by decide +kernel) rfl) (pm_in 816 (by decide +kernel) rfl) (pm_in 61 (by decide +kernel) rfl) (by decide +kernel) rfl ⟨(Nat.le_of_ble_eq_true rfl), (Nat.le_of_ble_eq_true rfl)⟩ ⟨C.hc, C.hs⟩ (Nat.le_of_ble_eq_true rfl) rfl dw_1190 ?_
    refine pm_sC_ok C.hx C.hb dw_1193 rfl ?_
    refine pm_sB_ok C.hx C.hb dw_1195 rfl ?_
    refine pl_arg (kv := 1) C.hx C.hb C.hX C.hbl C.hsz C.hρ (C.hin 1 (by decide) (by decide)) rfl dw_1196 dw_1197 dw_1199 dw_1200 dw_1201 ?_
    refine pl_arg (kv := 2) C.hx C.hb C.hX C.hbl C.hsz C.hρ (C.hin 2 (by decide) (by decide)) rfl dw_1202 dw_1203 dw_1205 dw_1206 dw_1207 ?_
    refine pl_arg (kv := 3) C.hx C.hb C.hX C.hbl C.hsz C.hρ (C.hin 3 (by decide) (by decide)) rfl dw_1208 dw_1209 dw_1211 dw_1212 dw_1213 ?_
    refine pr_callV (own := RL) (M := 155) (a := 200) (as := [.int (xs (i + Int32.ofInt 1).toNatClampNeg), .int (xs (i + Int32.ofInt 2).toNatClampNeg), .int (xs (i + Int32.ofInt 3).toNatClampNeg)]) (rest := []) (r := some (.int x)) (w' := w2) C.hx C.hb C.hml C.hown C.hts C.hK (pm_contract (pm_ScOk_all l) ρ τ D sz aV pt_Y155 (Nat.le_of_ble_eq_true rfl) k3) pt_Y155 (pm_in 1167 (by decide +kernel) rfl) (pm_in 1168 (by decide +kernel) rfl) (pm_in 1169 (by decide +kernel) rfl) ⟨RX6, TX6, 23, rfl, rfl⟩ g1 rfl ⟨(Nat.le_of_ble_eq_true rfl), (Nat.le_of_ble_eq_true rfl)⟩ ⟨C.hc, C.hs⟩ (Nat.le_of_ble_eq_true rfl) rfl dw_1214 ?_
    refine pm_sC_ok C.hx C.hb dw_1217 rfl ?_
    refine pm_sB_ok C.hx C.hb dw_1219 rfl ?_
    refine pr_callV (own := RL) (M := 86) (a := 200) (as := []) (rest := []) (r := some (.int 1)) (w' := w2) C.hx C.hb C.hml C.hown C.hts C.hK (pm_contract (pm_ScOk_all l) ρ τ D sz aV pt_Y86 (Nat.le_of_ble_eq_true rfl) k4) pt_Y86 (pm_in 823 (by decide +kernel) rfl) (pm_in 824 (by decide +kernel) rfl) (pm_in 825 (by decide +kernel) rfl) ⟨RX6, TX6, 23, rfl, rfl⟩ g2 rfl ⟨(Nat.le_of_ble_eq_true rfl), (Nat.le_of_ble_eq_true rfl)⟩ ⟨C.hc, C.hs⟩ (Nat.le_of_ble_eq_true rfl) rfl dw_1220 ?_
    refine pm_sB_ok C.hx C.hb dw_1223 rfl ?_
    refine pr_ceq C.hx C.hb dw_1225 (tgt := 1230) rfl (fun _ => ?_) (fun z => absurd rfl z)
    refine pm_sB_ok C.hx C.hb dw_1230 rfl ?_
    exact pr_ne C.hx C.hb dw_1232 (tgt := 1247) rfl (fun _ => pr_goto C.hx C.hb dw_1247 (tgt := 1447) rfl (pl_fg (K w2 I2))) (fun z => absurd z (by decide))
theorem pl_c18 (C : pl_C p l s m args c cells slots ρ τ D sz aV b L xs i) (I : IV w) (K : ∀ w', IV w' → pm_K p l e room_1 s m args below meth c (cells + 1) (slots + 6) Q ρ τ D sz (1447, pl_0 i, [], w')) : pm_K p l e room_1 s m args below meth c cells slots Q ρ τ D sz (1250, pl_0 i, [], w) := by
  obtain ⟨r, w1, w2, k1, h2, k2, I2⟩ : pm_pair w 66 158 [.ref 0, .int (xs (i + Int32.ofInt 1).toNatClampNeg), .int (xs (i + Int32.ofInt 2).toNatClampNeg), .int (xs (i + Int32.ofInt 3).toNatClampNeg)] [.ref 200, .int (xs (i + Int32.ofInt 1).toNatClampNeg), .int (xs (i + Int32.ofInt 2).toNatClampNeg), .int (xs (i + Int32.ofInt 3).toNatClampNeg)] := I_tells I
  refine pm_sB_ok C.hx C.hb dw_1250 rfl ?_
  refine pl_arg (kv := 1) C.hx C.hb C.hX C.hbl C.hsz C.hρ (C.hin 1 (by decide) (by decide)) rfl dw_1251 dw_1252 dw_1254 dw_1255 dw_1256 ?_
  refine pl_arg (kv := 2) C.hx C.hb C.hX C.hbl C.hsz C.hρ (C.hin 2 (by decide) (by decide)) rfl dw_1257 dw_1258 dw_1260 dw_1261 dw_1262 ?_
  refine pl_arg (kv := 3) C.hx C.hb C.hX C.hbl C.hsz C.hρ (C.hin 3 (by decide) (by decide)) rfl dw_1263 dw_1264 dw_1266 dw_1267 dw_1268 ?_
  refine pr_callV (own := RL) (M := 66) (a := 0) (as := [.int (xs (i + Int32.ofInt 1).toNatClampNeg), .int (xs (i + Int32.ofInt 2).toNatClampNeg), .int (xs (i + Int32.ofInt 3).toNatClampNeg)]) (rest := []) (r := some (.int r)) (w' := w1) C.hx C.hb C.hml C.hown C.hts C.hK (pm_contract (pm_ScOk_all l) ρ τ D sz aV pt_Y66 (Nat.le_of_ble_eq_true rfl) k1) pt_Y66 (pm_in 526 (by decide +kernel) rfl) (pm_in 527 (by decide +kernel) rfl) (pm_in 528 (by decide +kernel) rfl) ⟨RX5, TX5, 7, rfl, rfl⟩ (IV.c0 I) rfl ⟨(Nat.le_of_ble_eq_true rfl), (Nat.le_of_ble_eq_true rfl)⟩ ⟨Nat.le_trans (Nat.le_succ _) C.hc, Nat.le_trans (Nat.le_add_right _ 6) C.hs⟩ (Nat.le_of_ble_eq_true rfl) rfl dw_1269 ?_
  refine pm_sB_ok C.hx C.hb dw_1272 rfl ?_
  refine pl_arg (kv := 1) C.hx C.hb C.hX C.hbl C.hsz C.hρ (C.hin 1 (by decide) (by decide)) rfl dw_1273 dw_1274 dw_1276 dw_1277 dw_1278 ?_
  refine pl_arg (kv := 2) C.hx C.hb C.hX C.hbl C.hsz C.hρ (C.hin 2 (by decide) (by decide)) rfl dw_1279 dw_1280 dw_1282 dw_1283 dw_1284 ?_
  refine pl_arg (kv := 3) C.hx C.hb C.hX C.hbl C.hsz C.hρ (C.hin 3 (by decide) (by decide)) rfl dw_1285 dw_1286 dw_1288 dw_1289 dw_1290 ?_
  refine pr_callV (own := RL) (M := 158) (a := 200) (as := [.int (xs (i + Int32.ofInt 1).toNatClampNeg), .int (xs (i + Int32.ofInt 2).toNatClampNeg), .int (xs (i + Int32.ofInt 3).toNatClampNeg)]) (rest := [.int r]) (r := some (.int r)) (w' := w2) C.hx C.hb C.hml C.hown C.hts C.hK (pm_contract (pm_ScOk_all l) ρ τ D sz aV pt_Y158 (Nat.le_of_ble_eq_true rfl) k2) pt_Y158 (pm_in 1179 (by decide +kernel) rfl) (pm_in 1180 (by decide +kernel) rfl) (pm_in 1181 (by decide +kernel) rfl) ⟨RX6, TX6, 23, rfl, rfl⟩ h2 rfl ⟨(Nat.le_of_ble_eq_true rfl), (Nat.le_of_ble_eq_true rfl)⟩ ⟨Nat.le_trans (Nat.le_succ _) C.hc, Nat.le_trans (Nat.le_add_right _ 6) C.hs⟩ (Nat.le_of_ble_eq_true rfl) rfl dw_1291 ?_
  exact pr_ceq C.hx C.hb dw_1294 (tgt := 1447) rfl (fun _ => pr_widen (Nat.le_add_right _ _) (Nat.le_add_right _ _) (K w2 I2)) (fun z => absurd rfl z)
theorem pl_c19 (C : pl_C p l s m args c cells slots ρ τ D sz aV b L xs i) (I : IV w) (K : ∀ w', IV w' → pm_K p l e room_1 s m args below meth c (cells + 1) (slots + 6) Q ρ τ D sz (1447, pl_0 i, [], w')) : pm_K p l e room_1 s m args below meth c cells slots Q ρ τ D sz (1299, pl_0 i, [], w) := by
  obtain ⟨r, w1, w2, k1, h2, k2, I2⟩ : pm_pair w 67 160 [.ref 0, .int (xs (i + Int32.ofInt 1).toNatClampNeg), .int (xs (i + Int32.ofInt 2).toNatClampNeg), .int (xs (i + Int32.ofInt 3).toNatClampNeg), .int (xs (i + Int32.ofInt 4).toNatClampNeg)] [.ref 200, .int (xs (i + Int32.ofInt 1).toNatClampNeg), .int (xs (i + Int32.ofInt 2).toNatClampNeg), .int (xs (i + Int32.ofInt 3).toNatClampNeg), .int (xs (i + Int32.ofInt 4).toNatClampNeg)] := I_grants I
  refine pm_sB_ok C.hx C.hb dw_1299 rfl ?_
  refine pl_arg (kv := 1) C.hx C.hb C.hX C.hbl C.hsz C.hρ (C.hin 1 (by decide) (by decide)) rfl dw_1300 dw_1301 dw_1303 dw_1304 dw_1305 ?_
  refine pl_arg (kv := 2) C.hx C.hb C.hX C.hbl C.hsz C.hρ (C.hin 2 (by decide) (by decide)) rfl dw_1306 dw_1307 dw_1309 dw_1310 dw_1311 ?_
  refine pl_arg (kv := 3) C.hx C.hb C.hX C.hbl C.hsz C.hρ (C.hin 3 (by decide) (by decide)) rfl dw_1312 dw_1313 dw_1315 dw_1316 dw_1317 ?_
  refine pl_arg (kv := 4) C.hx C.hb C.hX C.hbl C.hsz C.hρ (C.hin 4 (by decide) (by decide)) rfl dw_1318 dw_1319 dw_1321 dw_1322 dw_1323 ?_
  refine pr_callV (own := RL) (M := 67) (a := 0) (as := [.int (xs (i + Int32.ofInt 1).toNatClampNeg), .int (xs (i + Int32.ofInt 2).toNatClampNeg), .int (xs (i + Int32.ofInt 3).toNatClampNeg), .int (xs (i + Int32.ofInt 4).toNatClampNeg)]) (rest := []) (r := some (.int r)) (w' := w1) C.hx C.hb C.hml C.hown C.hts C.hK (pm_contract (pm_ScOk_all l) ρ τ D sz aV pt_Y67 (Nat.le_of_ble_eq_true rfl) k1) pt_Y67 (pm_in 543 (by decide +kernel) rfl) (pm_in 544 (by decide +kernel) rfl) (pm_in 545 (by decide +kernel) rfl) ⟨RX5, TX5, 7, rfl, rfl⟩ (IV.c0 I) rfl ⟨(Nat.le_of_ble_eq_true rfl), (Nat.le_of_ble_eq_true rfl)⟩ ⟨Nat.le_trans (Nat.le_succ _) C.hc, Nat.le_trans (Nat.le_add_right _ 6) C.hs⟩ (Nat.le_of_ble_eq_true rfl) rfl dw_1324 ?_
  refine pm_sB_ok C.hx C.hb dw_1327 rfl ?_
  refine pl_arg (kv := 1) C.hx C.hb C.hX C.hbl C.hsz C.hρ (C.hin 1 (by decide) (by decide)) rfl dw_1328 dw_1329 dw_1331 dw_1332 dw_1333 ?_
  refine pl_arg (kv := 2) C.hx C.hb C.hX C.hbl C.hsz C.hρ (C.hin 2 (by decide) (by decide)) rfl dw_1334 dw_1335 dw_1337 dw_1338 dw_1339 ?_
  refine pl_arg (kv := 3) C.hx C.hb C.hX C.hbl C.hsz C.hρ (C.hin 3 (by decide) (by decide)) rfl dw_1340 dw_1341 dw_1343 dw_1344 dw_1345 ?_
  refine pl_arg (kv := 4) C.hx C.hb C.hX C.hbl C.hsz C.hρ (C.hin 4 (by decide) (by decide)) rfl dw_1346 dw_1347 dw_1349 dw_1350 dw_1351 ?_
  refine pr_callV (own := RL) (M := 160) (a := 200) (as := [.int (xs (i + Int32.ofInt 1).toNatClampNeg), .int (xs (i + Int32.ofInt 2).toNatClampNeg), .int (xs (i + Int32.ofInt 3).toNatClampNeg), .int (xs (i + Int32.ofInt 4).toNatClampNeg)]) (rest := [.int r]) (r := some (.int r)) (w' := w2) C.hx C.hb C.hml C.hown C.hts C.hK (pm_contract (pm_ScOk_all l) ρ τ D sz aV pt_Y160 (Nat.le_of_ble_eq_true rfl) k2) pt_Y160 (pm_in 1187 (by decide +kernel) rfl) (pm_in 1188 (by decide +kernel) rfl) (pm_in 1189 (by decide +kernel) rfl) ⟨RX6, TX6, 23, rfl, rfl⟩ h2 rfl ⟨(Nat.le_of_ble_eq_true rfl), (Nat.le_of_ble_eq_true rfl)⟩ ⟨Nat.le_trans (Nat.le_succ _) C.hc, Nat.le_trans (Nat.le_add_right _ 6) C.hs⟩ (Nat.le_of_ble_eq_true rfl) rfl dw_1352 ?_
  exact pr_ceq C.hx C.hb dw_1355 (tgt := 1447) rfl (fun _ => pr_widen (Nat.le_add_right _ _) (Nat.le_add_right _ _) (K w2 I2)) (fun z => absurd rfl z)
theorem pl_c20 (C : pl_C p l s m args c cells slots ρ τ D sz aV b L xs i) (I : IV w) (K : ∀ w', IV w' → pm_K p l e room_1 s m args below meth c (cells + 1) (slots + 6) Q ρ τ D sz (1447, pl_0 i, [], w')) : pm_K p l e room_1 s m args below meth c cells slots Q ρ τ D sz (1360, pl_0 i, [], w) := by
  obtain ⟨r, w1, w2, k1, h2, k2, I2⟩ : pm_pair w 68 161 [.ref 0, .int (xs (i + Int32.ofInt 1).toNatClampNeg), .int (xs (i + Int32.ofInt 2).toNatClampNeg)] [.ref 200, .int (xs (i + Int32.ofInt 1).toNatClampNeg), .int (xs (i + Int32.ofInt 2).toNatClampNeg)] := I_earns I
  refine pm_sB_ok C.hx C.hb dw_1360 rfl ?_
  refine pl_arg (kv := 1) C.hx C.hb C.hX C.hbl C.hsz C.hρ (C.hin 1 (by decide) (by decide)) rfl dw_1361 dw_1362 dw_1364 dw_1365 dw_1366 ?_
  refine pl_arg (kv := 2) C.hx C.hb C.hX C.hbl C.hsz C.hρ (C.hin 2 (by decide) (by decide)) rfl dw_1367 dw_1368 dw_1370 dw_1371 dw_1372 ?_
  refine pr_callV (own := RL) (M := 68) (a := 0) (as := [.int (xs (i + Int32.ofInt 1).toNatClampNeg), .int (xs (i + Int32.ofInt 2).toNatClampNeg)]) (rest := []) (r := some (.int r)) (w' := w1) C.hx C.hb C.hml C.hown C.hts C.hK (pm_contract (pm_ScOk_all l) ρ τ D sz aV pt_Y68 (Nat.le_of_ble_eq_true rfl) k1) pt_Y68 (pm_in 551 (by decide +kernel) rfl) (pm_in 552 (by decide +kernel) rfl) (pm_in 553 (by decide +kernel) rfl) ⟨RX5, TX5, 7, rfl, rfl⟩ (IV.c0 I) rfl ⟨(Nat.le_of_ble_eq_true rfl), (Nat.le_of_ble_eq_true rfl)⟩ ⟨Nat.le_trans (Nat.le_succ _) C.hc, Nat.le_trans (Nat.le_add_right _ 6) C.hs⟩ (Nat.le_of_ble_eq_true rfl) rfl dw_1373 ?_
  refine pm_sB_ok C.hx C.hb dw_1376 rfl ?_
  refine pl_arg (kv := 1) C.hx C.hb C.hX C.hbl C.hsz C.hρ (C.hin 1 (by decide) (by decide)) rfl dw_1377 dw_1378 dw_1380 dw_1381 dw_1382 ?_
  refine pl_arg (kv := 2) C.hx C.hb C.hX C.hbl C.hsz C.hρ (C.hin 2 (by decide) (by decide)) rfl dw_1383 dw_1384 dw_1386 dw_1387 dw_1388 ?_
  refine pr_callV (own := RL) (M := 161) (a := 200) (as := [.int (xs (i + Int32.ofInt 1).toNatClampNeg), .int (xs (i + Int32.ofInt 2).toNatClampNeg)]) (rest := [.int r]) (r := some (.int r)) (w' := w2) C.hx C.hb C.hml C.hown C.hts C.hK (pm_contract (pm_ScOk_all l) ρ τ D sz aV pt_Y161 (Nat.le_of_ble_eq_true rfl) k2) pt_Y161 (pm_in 1191 (by decide +kernel) rfl) (pm_in 1192 (by decide +kernel) rfl) (pm_in 1193 (by decide +kernel) rfl) ⟨RX6, TX6, 23, rfl, rfl⟩ h2 rfl ⟨(Nat.le_of_ble_eq_true rfl), (Nat.le_of_ble_eq_true rfl)⟩ ⟨Nat.le_trans (Nat.le_succ _) C.hc, Nat.le_trans (Nat.le_add_right _ 6) C.hs⟩ (Nat.le_of_ble_eq_true rfl) rfl dw_1389 ?_
  exact pr_ceq C.hx C.hb dw_1392 (tgt := 1447) rfl (fun _ => pr_widen (Nat.le_add_right _ _) (Nat.le_add_right _ _) (K w2 I2)) (fun z => absurd rfl z)
theorem pl_c21 (C : pl_C p l s m args c cells slots ρ τ D sz aV b L xs i) (I : IV w) (K : ∀ w', IV w' → pm_K p l e room_1 s m args below meth c (cells + 1) (slots + 6) Q ρ τ D sz (1447, pl_0 i, [], w')) : pm_K p l e room_1 s m args below meth c cells slots Q ρ τ D sz (1397, pl_0 i, [], w) := by
  obtain ⟨r, w1, w2, k1, h2, k2, I2⟩ : pm_pair w 70 163 [.ref 0, .int (xs (i + Int32.ofInt 1).toNatClampNeg), .int (xs (i + Int32.ofInt 2).toNatClampNeg)] [.ref 200, .int (xs (i + Int32.ofInt 1).toNatClampNeg), .int (xs (i + Int32.ofInt 2).toNatClampNeg)] := I_prices I
  refine pm_sB_ok C.hx C.hb dw_1397 rfl ?_
  refine pl_arg (kv := 1) C.hx C.hb C.hX C.hbl C.hsz C.hρ (C.hin 1 (by decide) (by decide)) rfl dw_1398 dw_1399 dw_1401 dw_1402 dw_1403 ?_
  refine pl_arg (kv := 2) C.hx C.hb C.hX C.hbl C.hsz C.hρ (C.hin 2 (by decide) (by decide)) rfl dw_1404 dw_1405 dw_1407 dw_1408 dw_1409 ?_
  refine pr_callV (own := RL) (M := 70) (a := 0) (as := [.int (xs (i + Int32.ofInt 1).toNatClampNeg), .int (xs (i + Int32.ofInt 2).toNatClampNeg)]) (rest := []) (r := some (.int r)) (w' := w1) C.hx C.hb C.hml C.hown C.hts C.hK (pm_contract (pm_ScOk_all l) ρ τ D sz aV pt_Y70 (Nat.le_of_ble_eq_true rfl) k1) pt_Y70 (pm_in 560 (by decide +kernel) rfl) (pm_in 561 (by decide +kernel) rfl) (pm_in 562 (by decide +kernel) rfl) ⟨RX5, TX5, 7, rfl, rfl⟩ (IV.c0 I) rfl ⟨(Nat.le_of_ble_eq_true rfl), (Nat.le_of_ble_eq_true rfl)⟩ ⟨Nat.le_trans (Nat.le_succ _) C.hc, Nat.le_trans (Nat.le_add_right _ 6) C.hs⟩ (Nat.le_of_ble_eq_true rfl) rfl dw_1410 ?_
  refine pm_sB_ok C.hx C.hb dw_1413 rfl ?_
  refine pl_arg (kv := 1) C.hx C.hb C.hX C.hbl C.hsz C.hρ (C.hin 1 (by decide) (by decide)) rfl dw_1414 dw_1415 dw_1417 dw_1418 dw_1419 ?_
  refine pl_arg (kv := 2) C.hx C.hb C.hX C.hbl C.hsz C.hρ (C.hin 2 (by decide) (by decide)) rfl dw_1420 dw_1421 dw_1423 dw_1424 dw_1425 ?_
  refine pr_callV (own := RL) (M := 163) (a := 200) (as := [.int (xs (i + Int32.ofInt 1).toNatClampNeg), .int (xs (i + Int32.ofInt 2).toNatClampNeg)]) (rest := [.int r]) (r := some (.int r)) (w' := w2) C.hx C.hb C.hml C.hown C.hts C.hK (pm_contract (pm_ScOk_all l) ρ τ D sz aV pt_Y163 (Nat.le_of_ble_eq_true rfl) k2) pt_Y163 (pm_in 1200 (by decide +kernel) rfl) (pm_in 1201 (by decide +kernel) rfl) (pm_in 1202 (by decide +kernel) rfl) ⟨RX6, TX6, 23, rfl, rfl⟩ h2 rfl ⟨(Nat.le_of_ble_eq_true rfl), (Nat.le_of_ble_eq_true rfl)⟩ ⟨Nat.le_trans (Nat.le_succ _) C.hc, Nat.le_trans (Nat.le_add_right _ 6) C.hs⟩ (Nat.le_of_ble_eq_true rfl) rfl dw_1426 ?_
  exact pr_ceq C.hx C.hb dw_1429 (tgt := 1447) rfl (fun _ => pr_widen (Nat.le_add_right _ _) (Nat.le_add_right _ _) (K w2 I2)) (fun z => absurd rfl z)
theorem pl_c22 (C : pl_C p l s m args c cells slots ρ τ D sz aV b L xs i) (I : IV w) (K : ∀ w', IV w' → pm_K p l e room_1 s m args below meth c (cells + 1) (slots + 6) Q ρ τ D sz (1447, pl_0 i, [], w')) : pm_K p l e room_1 s m args below meth c cells slots Q ρ τ D sz (1434, pl_0 i, [], w) := by
  obtain ⟨r, w1, w2, k1, h2, k2, I2⟩ : pm_pair w 72 164 [.ref 0] [.ref 200] := I_undo I
  refine pm_sB_ok C.hx C.hb dw_1434 rfl ?_
  refine pr_callV (own := RL) (M := 72) (a := 0) (as := []) (rest := []) (r := some (.int r)) (w' := w1) C.hx C.hb C.hml C.hown C.hts C.hK (pm_contract (pm_ScOk_all l) ρ τ D sz aV pt_Y72 (Nat.le_of_ble_eq_true rfl) k1) pt_Y72 (pm_in 567 (by decide +kernel) rfl) (pm_in 568 (by decide +kernel) rfl) (pm_in 569 (by decide +kernel) rfl) ⟨RX5, TX5, 7, rfl, rfl⟩ (IV.c0 I) rfl ⟨(Nat.le_of_ble_eq_true rfl), (Nat.le_of_ble_eq_true rfl)⟩ ⟨Nat.le_trans (Nat.le_succ _) C.hc, Nat.le_trans (Nat.le_add_right _ 6) C.hs⟩ (Nat.le_of_ble_eq_true rfl) rfl dw_1435 ?_
  refine pm_sB_ok C.hx C.hb dw_1438 rfl ?_
  refine pr_callV (own := RL) (M := 164) (a := 200) (as := []) (rest := [.int r]) (r := some (.int r)) (w' := w2) C.hx C.hb C.hml C.hown C.hts C.hK (pm_contract (pm_ScOk_all l) ρ τ D sz aV pt_Y164 (Nat.le_of_ble_eq_true rfl) k2) pt_Y164 (pm_in 1204 (by decide +kernel) rfl) (pm_in 1205 (by decide +kernel) rfl) (pm_in 1206 (by decide +kernel) rfl) ⟨RX6, TX6, 23, rfl, rfl⟩ h2 rfl ⟨(Nat.le_of_ble_eq_true rfl), (Nat.le_of_ble_eq_true rfl)⟩ ⟨Nat.le_trans (Nat.le_succ _) C.hc, Nat.le_trans (Nat.le_add_right _ 6) C.hs⟩ (Nat.le_of_ble_eq_true rfl) rfl dw_1439 ?_
  exact pr_ceq C.hx C.hb dw_1442 (tgt := 1447) rfl (fun _ => pr_widen (Nat.le_add_right _ _) (Nat.le_add_right _ _) (K w2 I2)) (fun z => absurd rfl z)
end PLW
