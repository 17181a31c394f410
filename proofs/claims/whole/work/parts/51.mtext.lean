/-! THE TEXT: the model's part -/
def ab_p1 : Nat → Nat → (Nat → Int32) → Nat → Int32
  | 0, _, g => g
  | m + 1, q, g => ab_p1 m (q + 1) (upd g (2 + 2 * q) 1)
def ab_c0 (f : Nat → Int32) : Nat → Int32 := ab_p1 4 0 (upd (ab_fill f 0 103) 0 1)
theorem q_clears1 {w : pm_H} {a : Nat} {f : Nat → Int32} : ∀ (m k : Nat), k + m = 103 → pm_ev 90 2 [some (.ref a), some (.int (nI k))] [] (pm_up w a (.inl (0, 103, .inl (ab_fill f 0 k)))) = pm_ev 90 18 [some (.ref a), some (.int (nI 103))] [] (pm_up w a (.inl (0, 103, .inl (ab_fill f 0 103)))) := by
  intro m
  induction m with
  | zero =>
    intro k hk
    have : k = 103 := by omega
    subst this
    simp only [z90_2, z90_3, z90_5]
    rw [if_neg (show ¬ nI 103 < 103 by decide)]
  | succ m ih =>
    intro k hk
    conv => lhs; simp only [z90_2, z90_3, z90_5]
    rw [if_pos (show nI k < 103 from nI_lt (a := k) (b := 103) (by omega) (by omega))]
    conv => lhs; simp only [z90_8, z90_9, z90_10, z90_11, z90_12, z90_15, pm_kv_some, pm_kw_some, pm_k_some, pm_k_void, pm_vc_some, pm_kl_some, pm_up_same, pm_is_in (vp_in_nI (show k < 103 by omega) (by omega)), nI_clamp (show k < 2 ^ 31 by omega), pm_up_up, ab_fill_s, nI_1]
    exact ih (k + 1) (by omega)
theorem q_clears2 {w : pm_H} {a : Nat} : ∀ (m q : Nat) (g : Nat → Int32), q + m = 4 → pm_ev 90 24 [some (.ref a), some (.int (nI q))] [] (pm_up w a (.inl (0, 103, .inl g))) = some (none, pm_up w a (.inl (0, 103, .inl (ab_p1 m q g)))) := by
  intro m
  induction m with
  | zero =>
    intro q g hq
    have : q = 4 := by omega
    subst this
    simp only [z90_24, z90_25, z90_26]
    rw [if_neg (show ¬ nI 4 < 4 by decide)]
    simp only [z90_45, ab_p1]
  | succ m ih =>
    intro q g hq
    have e1 : (1 : Int32) + 2 * nI q + 1 = nI (2 + 2 * q) := by
      have := pm_qix q 1
      rw [show nI 1 = (1 : Int32) from rfl] at this
      rw [this]
      congr 1
      omega
    simp only [z90_24, z90_25, z90_26]
    rw [if_pos (show nI q < 4 from nI_lt (a := q) (b := 4) (by omega) (by omega))]
    simp only [z90_29, z90_30, z90_31, z90_32, z90_33, z90_34, z90_35, z90_36, z90_37, z90_38, z90_39, z90_42, pm_kv_some, pm_kw_some, pm_k_some, pm_k_void, pm_vc_some, pm_kl_some, e1, pm_up_same, pm_is_in (vp_in_nI (show 2 + 2 * q < 103 by omega) (by omega)), nI_clamp (show 2 + 2 * q < 2 ^ 31 by omega), pm_up_up, nI_1, ab_p1]
    exact ih (q + 1) _ (by omega)
theorem q_clears {w : pm_H} {a : Nat} {f : Nat → Int32} (h : w a = some (.inl (0, 103, .inl f))) : pm_call 90 [.ref a] w = some (none, pm_up w a (.inl (0, 103, .inl (ab_c0 f)))) := by
  have e0 : pm_up w a (.inl (0, 103, .inl (ab_fill f 0 0))) = w := by rw [ab_fill_0]; exact pm_up_id h
  have h1 := q_clears1 (w := w) (a := a) (f := f) 103 0 rfl
  rw [e0] at h1
  have h2 := q_clears2 (w := w) (a := a) 4 0 (upd (ab_fill f 0 103) 0 1) rfl
  have h1' : pm_ev 90 2 [some (.ref a), some (.int 0)] [] w = pm_ev 90 18 [some (.ref a), some (.int (nI 103))] [] (pm_up w a (.inl (0, 103, .inl (ab_fill f 0 103)))) := h1
  have h2' : pm_ev 90 24 [some (.ref a), some (.int 0)] [] (pm_up w a (.inl (0, 103, .inl (upd (ab_fill f 0 103) 0 1)))) = some (none, pm_up w a (.inl (0, 103, .inl (ab_c0 f)))) := h2
  simp only [pe90, z90_0, z90_1, h1']
  simp only [z90_18, z90_19, z90_20, z90_21, z90_22, z90_23, pm_kv_some, pm_kw_some, pm_k_some, pm_k_void, pm_vc_some, pm_kl_some, pm_up_same, pm_is_in (show vp_in (0 : Int32) 103 from vp_in_nI (n := 0) (N := 103) (by omega) (by omega)), show (0 : Int32).toNatClampNeg = 0 from rfl, pm_up_up, h2']
theorem ab_c0_le {Z : Nat → Nat → Int32} {f : Nat → Int32} : ab_le (ab_rst Z) (Yv (ab_c0 f)) 0 0 := by
  intro j k hl
  unfold ab_lv at hl
  have hf : ∀ x, x < 103 → ab_fill f 0 103 x = 0 := fun x hx => if_pos hx
  have hcases : ((j = 0 ∨ j = 3 ∨ j = 7) ∧ k = 0) ∨ ((j = 1 ∨ j = 2) ∧ k < 4) := by omega
  rcases hcases with ⟨h, rfl⟩ | ⟨h, hk⟩
  · rcases h with rfl | rfl | rfl
    · show (1 : Int32) = ab_c0 f 0
      simp [ab_c0, ab_p1, upd]
    · show (0 : Int32) = ab_c0 f 9
      simp [ab_c0, ab_p1, upd, hf]
    · show (0 : Int32) = ab_c0 f 70
      simp [ab_c0, ab_p1, upd, hf]
  · have hk4 : k = 0 ∨ k = 1 ∨ k = 2 ∨ k = 3 := by omega
    rcases h with rfl | rfl
    · show ab_fill (Z 1) 0 4 k = ab_c0 f (1 + 2 * k)
      rw [show ab_fill (Z 1) 0 4 k = 0 from if_pos hk]
      rcases hk4 with rfl | rfl | rfl | rfl <;> simp [ab_c0, ab_p1, upd, hf]
    · show ab_fill (Z 2) 1 4 k = ab_c0 f (2 + 2 * k)
      rw [show ab_fill (Z 2) 1 4 k = 1 from if_pos hk]
      rcases hk4 with rfl | rfl | rfl | rfl <;> simp [ab_c0, ab_p1, upd]
theorem Yv_qt {Y : Nat → Nat → Int32} {RD : Nat → Int32} (le : ab_le Y (Yv RD) 0 0) {q : Nat} {v u : Int32} (hq : q < 4) : ab_le (ab_qt Y q v u) (Yv (Rv_qt RD q v u)) 0 0 := by
  intro j k hl
  have hl0 : ab_lv 0 0 j k := hl
  unfold ab_lv at hl
  have hcases : ((j = 0 ∨ j = 3 ∨ j = 7) ∧ k = 0) ∨ ((j = 1 ∨ j = 2) ∧ k < 4) := by omega
  have key : ∀ p : Nat, p ≠ 1 + 2 * q → p ≠ 2 + 2 * q → Rv_qt RD q v u p = RD p := fun p h1 h2 => by
    unfold Rv_qt
    rw [pk_un h2, pk_un h1]
  rcases hcases with ⟨h, rfl⟩ | ⟨h, hk⟩
  · rcases h with rfl | rfl | rfl
    · show Y 0 0 = Rv_qt RD q v u 0
      rw [key 0 (by omega) (by omega)]; exact le 0 0 hl0
    · show Y 3 0 = Rv_qt RD q v u 9
      rw [key 9 (by omega) (by omega)]; exact le 3 0 hl0
    · show Y 7 0 = Rv_qt RD q v u 70
      rw [key 70 (by omega) (by omega)]; exact le 7 0 hl0
  · rcases h with rfl | rfl
    · show upd (Y 1) q v k = Rv_qt RD q v u (1 + 2 * k)
      by_cases e : k = q
      · subst e
        unfold Rv_qt
        rw [pk_us, pk_un (by omega), pk_us]
      · rw [pk_un e, key _ (by omega) (by omega)]; exact le 1 k hl0
    · show upd (Y 2) q u k = Rv_qt RD q v u (2 + 2 * k)
      by_cases e : k = q
      · subst e
        unfold Rv_qt
        rw [pk_us, pk_us]
      · rw [pk_un e, key _ (by omega) (by omega)]; exact le 2 k hl0
theorem Yv_sh {Y : Nat → Nat → Int32} {RD : Nat → Int32} (le : ab_le Y (Yv RD) 0 0) {v : Int32} : ab_le (ab_set Y 0 (fun _ => v)) (Yv (upd RD 0 v)) 0 0 := by
  intro j k hl
  have hl0 : ab_lv 0 0 j k := hl
  unfold ab_lv at hl
  have hcases : ((j = 0 ∨ j = 3 ∨ j = 7) ∧ k = 0) ∨ ((j = 1 ∨ j = 2) ∧ k < 4) := by omega
  rcases hcases with ⟨h, rfl⟩ | ⟨h, hk⟩
  · rcases h with rfl | rfl | rfl
    · show v = upd RD 0 v 0
      rw [pk_us]
    · show Y 3 0 = upd RD 0 v 9
      rw [pk_un (by omega)]; exact le 3 0 hl0
    · show Y 7 0 = upd RD 0 v 70
      rw [pk_un (by omega)]; exact le 7 0 hl0
  · rcases h with rfl | rfl
    · show Y 1 k = upd RD 0 v (1 + 2 * k)
      rw [pk_un (by omega)]; exact le 1 k hl0
    · show Y 2 k = upd RD 0 v (2 + 2 * k)
      rw [pk_un (by omega)]; exact le 2 k hl0
section TZQ
variable {c : Nat → Nat} {t p : Nat} {Y : Nat → Nat → Int32} {n N : Nat}
theorem tz_quP_1 {f : Nat × Nat} (h : tz_quQ c t p = .inl f) : tz_quP c t p = .inl f := by
  have e := tz_quP_Q (c := c) (t := t) (p := p)
  rw [h] at e
  cases e3 : tz_quP c t p with
  | inl g => rw [e3] at e; injection e with e; rw [e]
  | inr g => rw [e3] at e; cases e
theorem tz_quP_2 {v u : Int32} {r : Nat} {f : Nat × Nat} (h : tz_quQ c t p = .inr (v, u, r)) (h2 : tz_semi c t r = .inl f) : tz_quP c t p = .inl f := by
  have e := tz_quP_Q (c := c) (t := t) (p := p)
  rw [h] at e
  simp only [tz_r3, tz_then, h2] at e
  cases e3 : tz_quP c t p with
  | inl g => rw [e3] at e; injection e with e; rw [e]
  | inr g => rw [e3] at e; cases e
theorem tz_quP_3 {v u : Int32} {r r' : Nat} (h : tz_quQ c t p = .inr (v, u, r)) (h2 : tz_semi c t r = .inr r') : tz_quP c t p = .inr (v, u, r') := by
  have e := tz_quP_Q (c := c) (t := t) (p := p)
  rw [h] at e
  simp only [tz_r3, tz_then, h2] at e
  cases e3 : tz_quP c t p with
  | inl g => rw [e3] at e; cases e
  | inr g => rw [e3] at e; injection e with e; injection e with e1 e2; injection e1 with e3 e4; obtain ⟨a, b, d⟩ := g; simp only at e2 e3 e4; rw [e2, e3, e4]
theorem tz_otP_1 {f : Nat × Nat} (h : tz_otQ c t Y n N p = .inl f) : tz_otP c t Y n N p = .inl f := by
  have e := tz_otP_Q (c := c) (t := t) (p := p) (Y := Y) (n := n) (N := N)
  rw [h] at e
  cases e3 : tz_otP c t Y n N p with
  | inl g => rw [e3] at e; injection e with e; rw [e]
  | inr g => rw [e3] at e; cases e
theorem tz_otP_2 {Y' : Nat → Nat → Int32} {n' N' r : Nat} {f : Nat × Nat} (h : tz_otQ c t Y n N p = .inr (Y', n', N', r)) (h2 : tz_semi c t r = .inl f) : tz_otP c t Y n N p = .inl f := by
  have e := tz_otP_Q (c := c) (t := t) (p := p) (Y := Y) (n := n) (N := N)
  rw [h] at e
  simp only [tz_r4, tz_then, h2] at e
  cases e3 : tz_otP c t Y n N p with
  | inl g => rw [e3] at e; injection e with e; rw [e]
  | inr g => rw [e3] at e; cases e
theorem tz_otP_3 {Y' : Nat → Nat → Int32} {n' N' r r' : Nat} (h : tz_otQ c t Y n N p = .inr (Y', n', N', r)) (h2 : tz_semi c t r = .inr r') : tz_otP c t Y n N p = .inr (Y', n', N', r') := by
  have e := tz_otP_Q (c := c) (t := t) (p := p) (Y := Y) (n := n) (N := N)
  rw [h] at e
  simp only [tz_r4, tz_then, h2] at e
  cases e3 : tz_otP c t Y n N p with
  | inl g => rw [e3] at e; cases e
  | inr g => rw [e3] at e; injection e with e; injection e with e1 e2; injection e1 with e3 e4; injection e4 with e4 e5; obtain ⟨a, b, d, q⟩ := g; simp only at e2 e3 e4 e5; rw [e2, e3, e4, e5]
theorem tz_shP_1 {f : Nat × Nat} (h : tz_num c t 1 99999 p = .inl f) : tz_shP c t p = .inl f := by
  unfold tz_shP
  rw [h]
theorem tz_shP_2 {v : Int32} {r : Nat} {f : Nat × Nat} (h : tz_num c t 1 99999 p = .inr (v, r)) (h2 : tz_semi c t r = .inl f) : tz_shP c t p = .inl f := by
  unfold tz_shP
  rw [h]
  show (match tz_semi c t r with
    | .inl f => Sum.inl f
    | .inr r3 => Sum.inr (v, r3)) = _
  rw [h2]
theorem tz_shP_3 {v : Int32} {r r' : Nat} (h : tz_num c t 1 99999 p = .inr (v, r)) (h2 : tz_semi c t r = .inr r') : tz_shP c t p = .inr (v, r') := by
  unfold tz_shP
  rw [h]
  show (match tz_semi c t r with
    | .inl f => Sum.inl f
    | .inr r3 => Sum.inr (v, r3)) = _
  rw [h2]
theorem tz_mk_0 {k : Nat} (hk : k ≤ 5) : tz_mk k = 0 ↔ k = 0 := by
  have : k = 0 ∨ k = 1 ∨ k = 2 ∨ k = 3 ∨ k = 4 ∨ k = 5 := by omega
  rcases this with rfl | rfl | rfl | rfl | rfl | rfl <;> decide
end TZQ
section PMX
variable {w : pm_H} {TT R RD SN : Nat → Int32} {wt er : Nat → Int64} {rk : Nat → Int32} {s0 s2 s3 s4 s5 s6 s7 s8 s9 s14 s18 s19 s20 : Int32} {l10 l21 l22 : Int64} {c : Nat → Nat} {t p n N : Nat} {Y : Nat → Nat → Int32}
theorem tz_cur_0 (hp : p ≤ t) (hc : tz_cur c t p s4 s5 s6 s7 l10) : s6 = 0 ↔ (tz_t c t p).1 = 0 := by
  rw [hc.2.1]
  have k5 := tz_k5 (c := c) hp
  have b := tz_mk_b (k := (tz_t c t p).1)
  exact ⟨fun z => (tz_mk_0 k5).mp ((nI_eq (b := 0) (by omega) (by omega)).mp z), fun z => by rw [z]; rfl⟩
/-- a line that is read, or not -/
theorem m_tl {w0 w1 : pm_H} {x s : Int32} {y : Option Value} {S S1 : Nat → Int32} {L L1 : Nat → Int64} (h0 : w0 200 = some (pm_mc S L)) (h1 : w1 200 = some (pm_mc S1 L1)) (hs : S1 9 = s) (h : pm_call 97 [.ref 200, .int x] w0 = some (some (.int 0), w1)) : pm_ev 91 57 [some (.ref 200), some (.int x), y] [] w0 = some (some (.int (-1 - s)), w1) := by
  unfold pm_mc at h0 h1
  simp only [z91_57, z91_58, z91_59, z91_62, pm_kv_some, pm_kw_some, pm_k_some, pm_k_void, pm_vc_some, pm_kl_some, h0, h]
  rw [if_pos trivial]
  simp only [z91_72, z91_73, z91_74, z91_77, z91_78, pm_kv_some, pm_kw_some, pm_k_some, pm_k_void, pm_vc_some, pm_kl_some, pg6_0, pg6_1, pg6_2, pg6_3, pg6_4, pg6_5, pg6_6, pg6_7, pg6_8, pg6_9, pg6_10, pg6_11, pg6_12, pg6_13, pg6_14, pg6_15, pg6_16, pg6_17, pg6_18, pg6_19, pg6_20, pg6_21, pg6_22, h1, hs]
theorem m_tl1 {w0 w1 w2 : pm_H} {x s : Int32} {y : Option Value} {S S1 S2 : Nat → Int32} {L L1 L2 : Nat → Int64} (h0 : w0 200 = some (pm_mc S L)) (h1 : w1 200 = some (pm_mc S1 L1)) (h2 : w2 200 = some (pm_mc S2 L2)) (hs : S2 9 = s) (h : pm_call 97 [.ref 200, .int x] w0 = some (some (.int 1), w1)) (h' : pm_call 117 [.ref 200] w1 = some (some (.int 0), w2)) : pm_ev 91 57 [some (.ref 200), some (.int x), y] [] w0 = some (some (.int (-1 - s)), w2) := by
  unfold pm_mc at h0 h1 h2
  simp only [z91_57, z91_58, z91_59, z91_62, pm_kv_some, pm_kw_some, pm_k_some, pm_k_void, pm_vc_some, pm_kl_some, h0, h]
  rw [if_neg (by decide)]
  simp only [z91_65, z91_66, z91_69, pm_kv_some, pm_kw_some, pm_k_some, pm_k_void, pm_vc_some, pm_kl_some, h1, h']
  rw [if_pos trivial]
  simp only [z91_72, z91_73, z91_74, z91_77, z91_78, pm_kv_some, pm_kw_some, pm_k_some, pm_k_void, pm_vc_some, pm_kl_some, pg6_0, pg6_1, pg6_2, pg6_3, pg6_4, pg6_5, pg6_6, pg6_7, pg6_8, pg6_9, pg6_10, pg6_11, pg6_12, pg6_13, pg6_14, pg6_15, pg6_16, pg6_17, pg6_18, pg6_19, pg6_20, pg6_21, pg6_22, h2, hs]
theorem m_tl2 {w0 w1 w2 : pm_H} {x : Int32} {y : Option Value} {S S1 : Nat → Int32} {L L1 : Nat → Int64} (h0 : w0 200 = some (pm_mc S L)) (h1 : w1 200 = some (pm_mc S1 L1)) (h : pm_call 97 [.ref 200, .int x] w0 = some (some (.int 1), w1)) (h' : pm_call 117 [.ref 200] w1 = some (some (.int 1), w2)) : pm_ev 91 57 [some (.ref 200), some (.int x), y] [] w0 = pm_ev 91 41 [some (.ref 200), some (.int (x + 1)), y] [] w2 := by
  unfold pm_mc at h0 h1
  simp only [z91_57, z91_58, z91_59, z91_62, pm_kv_some, pm_kw_some, pm_k_some, pm_k_void, pm_vc_some, pm_kl_some, h0, h]
  rw [if_neg (by decide)]
  simp only [z91_65, z91_66, z91_69, pm_kv_some, pm_kw_some, pm_k_some, pm_k_void, pm_vc_some, pm_kl_some, h1, h']
  rw [if_neg (by decide)]
  simp only [z91_79, z91_82]
theorem m_rl0 {w0 w1 : pm_H} {v : Int32} {S : Nat → Int32} {L : Nat → Int64} (h0 : w0 200 = some (pm_mc S L)) (hv : v = 0 ∨ v = 1) (h : pm_call 98 [.ref 200] w0 = some (some (.int v), w1)) : pm_call 97 [.ref 200, .int (nI 0)] w0 = some (some (.int v), w1) := by
  unfold pm_mc at h0
  simp only [pe97, z97_0, z97_1]
  rw [if_pos (show nI 0 = 0 from rfl)]
  simp only [z97_4, z97_5, z97_8, z97_30, pm_kv_some, pm_kw_some, pm_k_some, pm_k_void, pm_vc_some, pm_kl_some, h0, h]
  exact if_pos hv
theorem m_rl1 {w0 w1 : pm_H} {v : Int32} {S : Nat → Int32} {L : Nat → Int64} {q : Nat} (hq : q < 4) (h0 : w0 200 = some (pm_mc S L)) (hv : v = 0 ∨ v = 1) (h : pm_call 104 [.ref 200, .int (nI q)] w0 = some (some (.int v), w1)) : pm_call 97 [.ref 200, .int (nI (1 + q))] w0 = some (some (.int v), w1) := by
  unfold pm_mc at h0
  have e : nI (1 + q) - 1 = nI q := by rw [Nat.add_comm, nI_succ, Int32.add_sub_cancel]
  simp only [pe97, z97_0, z97_1]
  rw [if_neg (fun z => by have := (nI_eq (a := 1 + q) (b := 0) (by omega) (by omega)).mp z; omega)]
  simp only [z97_11, z97_12, z97_13]
  rw [if_neg (show ¬ (4 : Int32) < nI (1 + q) from nI_nlt (a := 4) (b := 1 + q) (by omega) (by omega))]
  simp only [z97_16, z97_17, z97_18, z97_19, z97_20, z97_23, z97_30, pm_kv_some, pm_kw_some, pm_k_some, pm_k_void, pm_vc_some, pm_kl_some, h0, e, h]
  exact if_pos hv
theorem m_rl2 {w0 w1 : pm_H} {v : Int32} {S : Nat → Int32} {L : Nat → Int64} {q : Nat} (hq : q < 100) (h0 : w0 200 = some (pm_mc S L)) (hv : v = 0 ∨ v = 1) (h : pm_call 109 [.ref 200] w0 = some (some (.int v), w1)) : pm_call 97 [.ref 200, .int (nI (5 + q))] w0 = some (some (.int v), w1) := by
  unfold pm_mc at h0
  simp only [pe97, z97_0, z97_1]
  rw [if_neg (fun z => by have := (nI_eq (a := 5 + q) (b := 0) (by omega) (by omega)).mp z; omega)]
  simp only [z97_11, z97_12, z97_13]
  rw [if_pos (show (4 : Int32) < nI (5 + q) from nI_lt (a := 4) (b := 5 + q) (by omega) (by omega))]
  simp only [z97_26, z97_27, z97_30, pm_kv_some, pm_kw_some, pm_k_some, pm_k_void, pm_vc_some, pm_kl_some, h0, h]
  exact if_pos hv
/-- to go on or not -/
theorem m_t41 {x : Int32} {y : Option Value} : pm_ev 91 41 [some (.ref 200), some (.int x), y] [] (pm_Mw w (ab_S s0 s2 s3 s4 s5 s6 s7 s8 s9 s14 s18 s19 s20) (ab_Lg l10 l21 l22) TT R RD SN wt er rk) = if s6 = 0 then (if x < 1 then pm_ev 91 85 [some (.ref 200), some (.int x), y] [] (pm_Mw w (ab_S s0 s2 s3 s4 s5 s6 s7 s8 s9 s14 s18 s19 s20) (ab_Lg l10 l21 l22) TT R RD SN wt er rk) else if 4 < x then pm_ev 91 85 [some (.ref 200), some (.int x), y] [] (pm_Mw w (ab_S s0 s2 s3 s4 s5 s6 s7 s8 s9 s14 s18 s19 s20) (ab_Lg l10 l21 l22) TT R RD SN wt er rk) else pm_ev 91 57 [some (.ref 200), some (.int x), y] [] (pm_Mw w (ab_S s0 s2 s3 s4 s5 s6 s7 s8 s9 s14 s18 s19 s20) (ab_Lg l10 l21 l22) TT R RD SN wt er rk)) else pm_ev 91 57 [some (.ref 200), some (.int x), y] [] (pm_Mw w (ab_S s0 s2 s3 s4 s5 s6 s7 s8 s9 s14 s18 s19 s20) (ab_Lg l10 l21 l22) TT R RD SN wt er rk) := by
  simp only [z91_41, z91_42, z91_45, pm_kv_some, pm_kw_some, pm_k_some, pm_k_void, pm_vc_some, pm_kl_some, pg6_0, pg6_1, pg6_2, pg6_3, pg6_4, pg6_5, pg6_6, pg6_7, pg6_8, pg6_9, pg6_10, pg6_11, pg6_12, pg6_13, pg6_14, pg6_15, pg6_16, pg6_17, pg6_18, pg6_19, pg6_20, pg6_21, pg6_22, mw200, aS0, aS2, aS3, aS4, aS5, aS6, aS7, aS8, aS9, aS14, aS18, aS19, aS20, aL10, aL21, aL22]
  by_cases h : s6 = 0
  · rw [if_pos h, if_pos h]
    simp only [z91_48, z91_49, z91_50, z91_51, pm_kv_some, pm_kw_some, pm_k_some, pm_k_void, pm_vc_some, pm_kl_some, q_isIn]
    by_cases h1 : x < 1
    · rw [if_pos h1, if_pos h1]
      simp only [z91_54]
      rw [if_pos trivial]
    · rw [if_neg h1, if_neg h1]
      by_cases h4 : 4 < x
      · rw [if_pos h4, if_pos h4]
        simp only [z91_54]
        rw [if_pos trivial]
      · rw [if_neg h4, if_neg h4]
        simp only [z91_54]
        rw [if_neg (by decide)]
  · rw [if_neg h, if_neg h]
/-- the quarters -/
theorem m_q4 (hT : tz_T TT c t) (ht : t ≤ 740) {y : Option Value} : ∀ (m q : Nat) (Y : Nat → Nat → Int32) (RD : Nat → Int32) (p : Nat) (s4 s5 s6 s7 : Int32) (l10 : Int64), q + m = 4 → p ≤ t → tz_cur c t p s4 s5 s6 s7 l10 → ab_le Y (Yv RD) 0 0 →
    (∃ k s, tz_q4 c t m q Y p = .inl (k, s) ∧ ∃ (RD' : Nat → Int32) (s4' s5' s6' s7' : Int32) (l10' : Int64), pm_ev 91 41 [some (.ref 200), some (.int (nI (1 + q))), y] [] (pm_Mw w (ab_S s0 s2 (nI t) s4 s5 s6 s7 s8 s9 s14 s18 s19 s20) (ab_Lg l10 l21 l22) TT R RD SN wt er rk) = some (some (.int (-1 - nI s)), (pm_Mw w (ab_S s0 s2 (nI t) s4' s5' s6' s7' (nI k) (nI s) s14 s18 s19 s20) (ab_Lg l10' l21 l22) TT R RD' SN wt er rk))) ∨
    (∃ Y' r, tz_q4 c t m q Y p = .inr (Y', r) ∧ r ≤ t ∧ ∃ (RD' : Nat → Int32) (s4' s5' s6' s7' : Int32) (l10' : Int64), ab_le Y' (Yv RD') 0 0 ∧ tz_cur c t r s4' s5' s6' s7' l10' ∧ pm_ev 91 41 [some (.ref 200), some (.int (nI (1 + q))), y] [] (pm_Mw w (ab_S s0 s2 (nI t) s4 s5 s6 s7 s8 s9 s14 s18 s19 s20) (ab_Lg l10 l21 l22) TT R RD SN wt er rk) = pm_ev 91 41 [some (.ref 200), some (.int (nI 5)), y] [] (pm_Mw w (ab_S s0 s2 (nI t) s4' s5' s6' s7' s8 s9 s14 s18 s19 s20) (ab_Lg l10' l21 l22) TT R RD' SN wt er rk)) := by
  intro m
  induction m with
  | zero =>
    intro q Y RD p s4 s5 s6 s7 l10 hq hp hc le
    have : q = 4 := by omega
    subst this
    exact Or.inr ⟨Y, p, rfl, hp, RD, s4, s5, s6, s7, l10, le, hc, rfl⟩
  | succ m ih =>
    intro q Y RD p s4 s5 s6 s7 l10 hq hp hc le
    have st : pm_ev 91 41 [some (.ref 200), some (.int (nI (1 + q))), y] [] (pm_Mw w (ab_S s0 s2 (nI t) s4 s5 s6 s7 s8 s9 s14 s18 s19 s20) (ab_Lg l10 l21 l22) TT R RD SN wt er rk) = pm_ev 91 57 [some (.ref 200), some (.int (nI (1 + q))), y] [] (pm_Mw w (ab_S s0 s2 (nI t) s4 s5 s6 s7 s8 s9 s14 s18 s19 s20) (ab_Lg l10 l21 l22) TT R RD SN wt er rk) := by
      rw [m_t41]
      by_cases h : s6 = 0
      · rw [if_pos h, if_neg (show ¬ nI (1 + q) < 1 from nI_nlt (a := 1 + q) (b := 1) (by omega) (by omega)), if_neg (show ¬ (4 : Int32) < nI (1 + q) from nI_nlt (a := 4) (b := 1 + q) (by omega) (by omega))]
      · rw [if_neg h]
    rw [st, tz_q4]
    rcases m_readQuarter (w := w) (TT := TT) (R := R) (SN := SN) (wt := wt) (er := er) (rk := rk) (s9 := s9) (s14 := s14) (s18 := s18) (s19 := s19) (s20 := s20) (l21 := l21) (l22 := l22) (s0 := s0) (s2 := s2) (s8 := s8) (RD := RD) hT ht hp hc (show q < 4 by omega) with ⟨k, s, e, RD', x4, x5, x6, x7, x10, h⟩ | ⟨v, u, r, e, hr, x4, x5, x6, x7, x10, h, hc1⟩
    · rw [tz_quP_1 e]
      exact Or.inl ⟨k, s, rfl, RD', x4, x5, x6, x7, x10, m_tl mwm mwm rfl (m_rl1 (by omega) mwm (Or.inl rfl) h)⟩
    · rcases m_readEnd (w := w) (TT := TT) (R := R) (SN := SN) (wt := wt) (er := er) (rk := rk) (s9 := s9) (s14 := s14) (s18 := s18) (s19 := s19) (s20 := s20) (l21 := l21) (l22 := l22) (s0 := s0) (s2 := s2) (s8 := s8) (RD := Rv_qt RD q v u) hT ht hr hc1 with ⟨k, s, e2, h2⟩ | ⟨r2, e2, hr2, y4, y5, y6, y7, y10, h2, hc2⟩
      · rw [tz_quP_2 e e2]
        exact Or.inl ⟨k, s, rfl, Rv_qt RD q v u, x4, x5, x6, x7, x10, m_tl1 mwm mwm mwm rfl (m_rl1 (by omega) mwm (Or.inr rfl) h) h2⟩
      · rw [tz_quP_3 e e2, m_tl2 mwm mwm (m_rl1 (show q < 4 by omega) mwm (Or.inr rfl) h) h2, nI_1]
        exact ih (q + 1) (ab_qt Y q v u) (Rv_qt RD q v u) r2 y4 y5 y6 y7 y10 (by omega) hr2 hc2 (Yv_qt le (by omega))
/-- all other lines -/
theorem m_lp (hT : tz_T TT c t) (ht : t ≤ 740) {y : Option Value} : ∀ (m : Nat) (Y : Nat → Nat → Int32) (n N : Nat) (RD : Nat → Int32) (p : Nat) (s4 s5 s6 s7 : Int32) (l10 : Int64), n + N + m = 29 → 1 ≤ m → p ≤ t → tz_cur c t p s4 s5 s6 s7 l10 → ab_wf Y n N → ab_le Y (Yv RD) n N → (∀ Y' n' N' r Y n N p, tz_otP c t Y n N p = .inr (Y', n', N', r) → ab_wf Y n N → p ≤ t → ab_wf Y' n' N' ∧ n' + N' = n + N + 1) →
    (∃ k s, tz_lp c t m Y n N p = .inl (k, s) ∧ ∃ (RD' : Nat → Int32) (s4' s5' s6' s7' : Int32) (l10' : Int64), pm_ev 91 41 [some (.ref 200), some (.int (nI (5 + (n + N)))), y] [] (pm_Mw w (ab_S s0 s2 (nI t) s4 s5 s6 s7 s8 s9 s14 s18 s19 s20) (ab_Lg l10 l21 l22) TT R RD SN wt er rk) = some (some (.int (-1 - nI s)), (pm_Mw w (ab_S s0 s2 (nI t) s4' s5' s6' s7' (nI k) (nI s) s14 s18 s19 s20) (ab_Lg l10' l21 l22) TT R RD' SN wt er rk))) ∨
    (∃ Y' n' N', tz_lp c t m Y n N p = .inr (Y', n', N') ∧ ab_wf Y' n' N' ∧ ∃ (RD' : Nat → Int32) (s4' s5' s6' s7' : Int32) (l10' : Int64), ab_le Y' (Yv RD') n' N' ∧ pm_ev 91 41 [some (.ref 200), some (.int (nI (5 + (n + N)))), y] [] (pm_Mw w (ab_S s0 s2 (nI t) s4 s5 s6 s7 s8 s9 s14 s18 s19 s20) (ab_Lg l10 l21 l22) TT R RD SN wt er rk) = pm_ev 91 85 [some (.ref 200), some (.int (nI (5 + (n' + N')))), y] [] (pm_Mw w (ab_S s0 s2 (nI t) s4' s5' s6' s7' s8 s9 s14 s18 s19 s20) (ab_Lg l10' l21 l22) TT R RD' SN wt er rk)) := by
  intro m
  induction m with
  | zero => intro Y n N RD p s4 s5 s6 s7 l10 hm h1; omega
  | succ m ih =>
    intro Y n N RD p s4 s5 s6 s7 l10 hm h1 hp hc hw le hot
    rw [m_t41, tz_lp]
    by_cases e0 : (tz_t c t p).1 = 0
    · rw [if_pos e0, if_pos ((tz_cur_0 hp hc).mpr e0), if_neg (show ¬ nI (5 + (n + N)) < 1 from nI_nlt (a := 5 + (n + N)) (b := 1) (by omega) (by omega)), if_pos (show (4 : Int32) < nI (5 + (n + N)) from nI_lt (a := 4) (b := 5 + (n + N)) (by omega) (by omega))]
      exact Or.inr ⟨Y, n, N, rfl, hw, RD, s4, s5, s6, s7, l10, le, rfl⟩
    · rw [if_neg e0, if_neg (fun z => e0 ((tz_cur_0 hp hc).mp z))]
      rcases m_readOther (w := w) (TT := TT) (R := R) (SN := SN) (wt := wt) (er := er) (rk := rk) (s9 := s9) (s14 := s14) (s18 := s18) (s19 := s19) (s20 := s20) (l21 := l21) (l22 := l22) (s0 := s0) (s2 := s2) (s8 := s8) (RD := RD) hT ht hp hc hw le with ⟨k, s, e, RD', x4, x5, x6, x7, x10, h⟩ | ⟨Y', n', N', r, e, hr, RD', x4, x5, x6, x7, x10, hle, h, hc1⟩
      · rw [tz_otP_1 e]
        exact Or.inl ⟨k, s, rfl, RD', x4, x5, x6, x7, x10, m_tl mwm mwm rfl (m_rl2 (by omega) mwm (Or.inl rfl) h)⟩
      · rcases m_readEnd (w := w) (TT := TT) (R := R) (SN := SN) (wt := wt) (er := er) (rk := rk) (s9 := s9) (s14 := s14) (s18 := s18) (s19 := s19) (s20 := s20) (l21 := l21) (l22 := l22) (s0 := s0) (s2 := s2) (s8 := s8) (RD := RD') hT ht hr hc1 with ⟨k, s, e2, h2⟩ | ⟨r2, e2, hr2, y4, y5, y6, y7, y10, h2, hc2⟩
        · rw [tz_otP_2 e e2]
          exact Or.inl ⟨k, s, rfl, RD', x4, x5, x6, x7, x10, m_tl1 mwm mwm mwm rfl (m_rl2 (by omega) mwm (Or.inr rfl) h) h2⟩
        · have e3 := tz_otP_3 e e2
          obtain ⟨hw', hn'⟩ := hot _ _ _ _ _ _ _ _ e3 hw hp
          have h1' : 1 ≤ m := by
            have a := hw'.n20
            have b := hw'.N8
            omega
          rw [e3, m_tl2 mwm mwm (m_rl2 (show n + N < 100 by omega) mwm (Or.inr rfl) h) h2, nI_1, show 5 + (n + N) + 1 = 5 + (n' + N') by omega]
          exact ih Y' n' N' RD' r2 y4 y5 y6 y7 y10 (by omega) h1' hr2 hc2 hw' hle hot
/-- what was read becomes what stands -/
theorem m_copy {x : Int32} : ∀ (m j : Nat), j + m = 103 → pm_ev 91 87 [some (.ref 200), some (.int x), some (.int (nI j))] [] (pm_Mw w (ab_S s0 s2 s3 s4 s5 s6 s7 s8 s9 s14 s18 s19 s20) (ab_Lg l10 l21 l22) TT (fun i => if i < j then RD i else R i) RD SN wt er rk) = some (some (.int x), (pm_Mw w (ab_S s0 s2 s3 s4 s5 s6 s7 s8 s9 0 s18 s19 s20) (ab_Lg l10 l21 l22) TT (fun i => if i < 103 then RD i else R i) RD SN wt er rk)) := by
  intro m
  induction m with
  | zero =>
    intro j hj
    have : j = 103 := by omega
    subst this
    simp only [z91_87, z91_88, z91_90]
    rw [if_neg (show ¬ nI 103 < 103 by decide)]
    simp only [z91_111, z91_112, z91_113, z91_116, z91_117, pm_kv_some, pm_kw_some, pm_k_some, pm_k_void, pm_vc_some, pm_kl_some, pp6_0, pp6_2, pp6_3, pp6_4, pp6_5, pp6_6, pp6_7, pp6_8, pp6_9, pp6_10, pp6_14, pp6_18, pp6_19, pp6_20, pp6_21, pp6_22, mw200, aS0, aS2, aS3, aS4, aS5, aS6, aS7, aS8, aS9, aS14, aS18, aS19, aS20, aL10, aL21, aL22, mu200]
  | succ m ih =>
    intro j hj
    have hj1 := vp_in_nI (show j < 103 by omega) (by omega)
    have e : upd (fun i => if i < j then RD i else R i) j (RD j) = fun i => if i < j + 1 then RD i else R i := by
      funext i
      by_cases h : i = j
      · subst h; rw [pk_us, if_pos (by omega)]
      · rw [pk_un h]
        by_cases h2 : i < j
        · rw [if_pos h2, if_pos (by omega)]
        · rw [if_neg h2, if_neg (by omega)]
    simp only [z91_87, z91_88, z91_90]
    rw [if_pos (show nI j < 103 from nI_lt (a := j) (b := 103) (by omega) (by omega))]
    simp only [z91_93, z91_94, z91_97, z91_98, z91_99, z91_102, z91_103, z91_104, z91_105, z91_108, pm_kv_some, pm_kw_some, pm_k_some, pm_k_void, pm_vc_some, pm_kl_some, pg6_0, pg6_1, pg6_2, pg6_3, pg6_4, pg6_5, pg6_6, pg6_7, pg6_8, pg6_9, pg6_10, pg6_11, pg6_12, pg6_13, pg6_14, pg6_15, pg6_16, pg6_17, pg6_18, pg6_19, pg6_20, pg6_21, pg6_22, mw200, mw213, mw212, pm_ia_in hj1, pm_is_in hj1, nI_clamp (show j < 2 ^ 31 by omega), mu212, e, nI_1]
    exact ih (j + 1) (by omega)
theorem m_copy85 {x : Int32} {y : Option Value} : pm_ev 91 85 [some (.ref 200), some (.int x), y] [] (pm_Mw w (ab_S s0 s2 s3 s4 s5 s6 s7 s8 s9 s14 s18 s19 s20) (ab_Lg l10 l21 l22) TT R RD SN wt er rk) = some (some (.int x), (pm_Mw w (ab_S s0 s2 s3 s4 s5 s6 s7 s8 s9 0 s18 s19 s20) (ab_Lg l10 l21 l22) TT (fun i => if i < 103 then RD i else R i) RD SN wt er rk)) := by
  have h := m_copy (w := w) (TT := TT) (R := R) (RD := RD) (SN := SN) (wt := wt) (er := er) (rk := rk) (s0 := s0) (s2 := s2) (s3 := s3) (s4 := s4) (s5 := s5) (s6 := s6) (s7 := s7) (s8 := s8) (s9 := s9) (s14 := s14) (s18 := s18) (s19 := s19) (s20 := s20) (l10 := l10) (l21 := l21) (l22 := l22) (x := x) 103 0 rfl
  rw [show (fun i => if i < 0 then RD i else R i) = R from by funext i; exact if_neg (by omega)] at h
  have h' : pm_ev 91 87 [some (.ref 200), some (.int x), some (.int 0)] [] (pm_Mw w (ab_S s0 s2 s3 s4 s5 s6 s7 s8 s9 s14 s18 s19 s20) (ab_Lg l10 l21 l22) TT R RD SN wt er rk) = some (some (.int x), (pm_Mw w (ab_S s0 s2 s3 s4 s5 s6 s7 s8 s9 0 s18 s19 s20) (ab_Lg l10 l21 l22) TT (fun i => if i < 103 then RD i else R i) RD SN wt er rk)) := h
  simp only [z91_85, z91_86, h']
/-- the whole text -/
theorem m_text (hT : tz_T TT c t) (ht : t ≤ 740) {Z : Nat → Nat → Int32} (hot : ∀ Y' n' N' r Y n N p, tz_otP c t Y n N p = .inr (Y', n', N', r) → ab_wf Y n N → p ≤ t → ab_wf Y' n' N' ∧ n' + N' = n + N + 1) (hq4 : ∀ Y' r Y p, tz_q4 c t 4 0 Y p = .inr (Y', r) → ab_wf Y 0 0 → p ≤ t → ab_wf Y' 0 0) :
    (∃ k s, tz_tx c t (ab_rst Z) = .inl (k, s) ∧ ∃ (RD' : Nat → Int32) (s4' s5' s6' s7' : Int32) (l10' : Int64), pm_call 91 [.ref 200] (pm_Mw w (ab_S s0 (nI t) s3 s4 s5 s6 s7 s8 s9 s14 s18 s19 s20) (ab_Lg l10 l21 l22) TT R RD SN wt er rk) = some (some (.int (-1 - nI s)), (pm_Mw w (ab_S 0 0 (nI t) s4' s5' s6' s7' (nI k) (nI s) s14 s18 s19 s20) (ab_Lg l10' l21 l22) TT R RD' SN wt er rk))) ∨
    (∃ Y' n' N' L, tz_tx c t (ab_rst Z) = .inr (Y', n', N', L) ∧ ∃ (RD' : Nat → Int32) (s4' s5' s6' s7' : Int32) (l10' : Int64), ab_le Y' (Yv (fun i => if i < 103 then RD' i else R i)) n' N' ∧ pm_call 91 [.ref 200] (pm_Mw w (ab_S s0 (nI t) s3 s4 s5 s6 s7 s8 s9 s14 s18 s19 s20) (ab_Lg l10 l21 l22) TT R RD SN wt er rk) = some (some (.int (nI L)), (pm_Mw w (ab_S 0 0 (nI t) s4' s5' s6' s7' 0 s9 0 s18 s19 s20) (ab_Lg l10' l21 l22) TT (fun i => if i < 103 then RD' i else R i) RD' SN wt er rk))) := by
  have hw := ab_rst_wf (Z := Z)
  have hp : 0 ≤ t := Nat.zero_le _
  have le0 := ab_c0_le (Z := Z) (f := RD)
  have fin : ∀ {Y' : Nat → Nat → Int32} {n' N' : Nat} {RD' : Nat → Int32}, n' ≤ 20 → N' ≤ 8 → ab_le Y' (Yv RD') n' N' → ab_le Y' (Yv (fun i => if i < 103 then RD' i else R i)) n' N' := by
    intro Y' n' N' RD' h20 h8 le
    refine le.trans (fun j k hl => ?_)
    have hl0 := hl
    unfold ab_lv at hl
    have key : ∀ i, i < 103 → (fun i => if i < 103 then RD' i else R i) i = RD' i := fun i hi => if_pos hi
    have : j = 0 ∨ j = 1 ∨ j = 2 ∨ j = 3 ∨ j = 4 ∨ j = 5 ∨ j = 6 ∨ j = 7 ∨ j = 8 ∨ j = 9 ∨ j = 10 ∨ j = 11 := by omega
    rcases this with e | e | e | e | e | e | e | e | e | e | e | e <;> subst e <;> exact (key _ (by omega)).symm
  obtain ⟨a4, a5, a6, a7, a10, g1, hc⟩ := m_go (w := w) (TT := TT) (R := R) (SN := SN) (wt := wt) (er := er) (rk := rk) (s9 := s9) (s14 := s14) (s18 := s18) (s19 := s19) (s20 := s20) (l21 := l21) (l22 := l22) (RD := ab_c0 RD) (s0 := 0) (s2 := 0) (s8 := 0) (s5 := s5) (s6 := s6) (s7 := s7) (l10 := l10) hT ht hp
  have g1' : pm_call 92 [.ref 200] (pm_Mw w (ab_S 0 0 (nI t) 0 s5 s6 s7 0 s9 s14 s18 s19 s20) (ab_Lg l10 l21 l22) TT R (ab_c0 RD) SN wt er rk) = some (none, (pm_Mw w (ab_S 0 0 (nI t) a4 a5 a6 a7 0 s9 s14 s18 s19 s20) (ab_Lg a10 l21 l22) TT R (ab_c0 RD) SN wt er rk)) := g1
  have st : pm_call 91 [.ref 200] (pm_Mw w (ab_S s0 (nI t) s3 s4 s5 s6 s7 s8 s9 s14 s18 s19 s20) (ab_Lg l10 l21 l22) TT R RD SN wt er rk) = pm_ev 91 41 [some (.ref 200), some (.int (nI 0)), none] [] (pm_Mw w (ab_S 0 0 (nI t) a4 a5 a6 a7 0 s9 s14 s18 s19 s20) (ab_Lg a10 l21 l22) TT R (ab_c0 RD) SN wt er rk) := by
    simp only [pe91, z91_0, z91_1, z91_2, z91_5, z91_6, z91_7, z91_10, z91_13, z91_14, z91_15, z91_18, z91_19, z91_20, z91_23, z91_24, z91_25, z91_28, z91_29, z91_30, z91_31, z91_34, z91_37, z91_38, pm_kv_some, pm_kw_some, pm_k_some, pm_k_void, pm_vc_some, pm_kl_some, pg6_0, pg6_1, pg6_2, pg6_3, pg6_4, pg6_5, pg6_6, pg6_7, pg6_8, pg6_9, pg6_10, pg6_11, pg6_12, pg6_13, pg6_14, pg6_15, pg6_16, pg6_17, pg6_18, pg6_19, pg6_20, pg6_21, pg6_22, pp6_0, pp6_2, pp6_3, pp6_4, pp6_5, pp6_6, pp6_7, pp6_8, pp6_9, pp6_10, pp6_14, pp6_18, pp6_19, pp6_20, pp6_21, pp6_22, mw200, aS0, aS2, aS3, aS4, aS5, aS6, aS7, aS8, aS9, aS14, aS18, aS19, aS20, aL10, aL21, aL22, mu200, q_clears mw213, mu213, g1']
    rfl
  rw [st]
  unfold tz_tx
  rw [m_t41]
  by_cases e0 : (tz_t c t 0).1 = 0
  · rw [if_pos e0, if_pos ((tz_cur_0 hp hc).mpr e0), if_pos (show nI 0 < 1 by decide), m_copy85]
    exact Or.inr ⟨_, 0, 0, 0, rfl, ab_c0 RD, a4, a5, a6, a7, a10, fin (by omega) (by omega) le0, rfl⟩
  · rw [if_neg e0, if_neg (fun z => e0 ((tz_cur_0 hp hc).mp z))]
    rcases m_readShares (w := w) (TT := TT) (R := R) (SN := SN) (wt := wt) (er := er) (rk := rk) (s9 := s9) (s14 := s14) (s18 := s18) (s19 := s19) (s20 := s20) (l21 := l21) (l22 := l22) (RD := ab_c0 RD) (s0 := 0) (s2 := 0) (s8 := 0) hT ht hp hc with ⟨k, s, e, x4, x5, x6, x7, x10, h⟩ | ⟨r, v, r1, e1, e2, hr1, v1, v2, x4, x5, x6, x7, x10, h, hc1⟩
    · left
      refine ⟨k, s, ?_, ab_c0 RD, x4, x5, x6, x7, x10, m_tl mwm mwm rfl (m_rl0 mwm (Or.inl rfl) h)⟩
      rcases e with e | ⟨r, e, e2⟩
      · rw [e]
      · rw [e]
        simp only [tz_shP_1 e2]
    · rw [e1]
      rcases m_readEnd (w := w) (TT := TT) (R := R) (SN := SN) (wt := wt) (er := er) (rk := rk) (s9 := s9) (s14 := s14) (s18 := s18) (s19 := s19) (s20 := s20) (l21 := l21) (l22 := l22) (RD := upd (ab_c0 RD) 0 v) (s0 := 0) (s2 := 0) (s8 := 0) hT ht hr1 hc1 with ⟨k, s, e3, h2⟩ | ⟨r2, e3, hr2, y4, y5, y6, y7, y10, h2, hc2⟩
      · left
        have es' := tz_shP_2 e2 e3
        refine ⟨k, s, ?_, upd (ab_c0 RD) 0 v, x4, x5, x6, x7, x10, m_tl1 mwm mwm mwm rfl (m_rl0 mwm (Or.inr rfl) h) h2⟩
        simp only [es']
      · have es' := tz_shP_3 e2 e3
        simp only [es']
        rw [m_tl2 mwm mwm (m_rl0 mwm (Or.inr rfl) h) h2]
        have hw1 := ab_wf_sh hw (i3_m v1 v2)
        rcases m_q4 (w := w) (TT := TT) (R := R) (SN := SN) (wt := wt) (er := er) (rk := rk) (s9 := s9) (s14 := s14) (s18 := s18) (s19 := s19) (s20 := s20) (l21 := l21) (l22 := l22) (s0 := 0) (s2 := 0) (s8 := 0) (y := none) hT ht 4 0 (ab_set (ab_rst Z) 0 (fun _ => v)) (upd (ab_c0 RD) 0 v) r2 y4 y5 y6 y7 y10 rfl hr2 hc2 (Yv_sh le0) with ⟨k, s, e, RD', x4, x5, x6, x7, x10, h⟩ | ⟨Y1, r3, e, hr3, RD', x4, x5, x6, x7, x10, le1, hc3, h⟩
        · exact Or.inl ⟨k, s, by rw [e], RD', x4, x5, x6, x7, x10, h⟩
        · have h' : pm_ev 91 41 [some (.ref 200), some (.int (nI 0 + 1)), none] [] (pm_Mw w (ab_S 0 0 (nI t) y4 y5 y6 y7 0 s9 s14 s18 s19 s20) (ab_Lg y10 l21 l22) TT R (upd (ab_c0 RD) 0 v) SN wt er rk) = pm_ev 91 41 [some (.ref 200), some (.int (nI (5 + (0 + 0)))), none] [] (pm_Mw w (ab_S 0 0 (nI t) x4 x5 x6 x7 0 s9 s14 s18 s19 s20) (ab_Lg x10 l21 l22) TT R RD' SN wt er rk) := h
          rw [h', e]
          have hw2 := hq4 _ _ _ _ e hw1 hr2
          rcases m_lp (w := w) (TT := TT) (R := R) (SN := SN) (wt := wt) (er := er) (rk := rk) (s9 := s9) (s14 := s14) (s18 := s18) (s19 := s19) (s20 := s20) (l21 := l21) (l22 := l22) (s0 := 0) (s2 := 0) (s8 := 0) (y := none) hT ht 29 Y1 0 0 RD' r3 x4 x5 x6 x7 x10 rfl (by omega) hr3 hc3 hw2 le1 hot with ⟨k, s, e, RD'', z4, z5, z6, z7, z10, h⟩ | ⟨Y2, n', N', e, hw3, RD'', z4, z5, z6, z7, z10, le2, h⟩
          · exact Or.inl ⟨k, s, by simp only [e], RD'', z4, z5, z6, z7, z10, h⟩
          · refine Or.inr ⟨Y2, n', N', 5 + n' + N', by simp only [e], RD'', z4, z5, z6, z7, z10, fin hw3.n20 hw3.N8 le2, ?_⟩
            rw [h, m_copy85, Nat.add_assoc]
end PMX
