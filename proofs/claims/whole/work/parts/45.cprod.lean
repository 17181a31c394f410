/-! LINES: the class's part -/
def tz_shP (c : Nat → Nat) (t r : Nat) : (Nat × Nat) ⊕ (Int32 × Nat) := match tz_num c t 1 99999 r with
  | .inl f => .inl f
  | .inr (v, r2) => match tz_semi c t r2 with
    | .inl f => .inl f
    | .inr r3 => .inr (v, r3)
/-- behind 'profit' or 'loss': profit, price -/
noncomputable def tz_qP (c : Nat → Nat) (t r : Nat) : (Nat × Nat) ⊕ (Int32 × Int32 × Nat) := match tz_num c t 0 99999 r with
  | .inl f => .inl f
  | .inr (v, r3) => match tz_word c t 4 r3 with
    | .inl f => .inl f
    | .inr r4 => match tz_num c t 1 9999 r4 with
      | .inl f => .inl f
      | .inr (u, r5) => match tz_semi c t r5 with
        | .inl f => .inl f
        | .inr r6 => .inr (v, u, r6)
def tz_evP (c : Nat → Nat) (t : Nat) (ld lo mo : Int32) (p : Nat) : (Nat × Nat) ⊕ (Int32 × Int32 × Nat) := match tz_num c t ld 359 p with
  | .inl f => .inl f
  | .inr (d, r1) => match tz_num c t lo mo r1 with
    | .inl f => .inl f
    | .inr (u, r2) => match tz_semi c t r2 with
      | .inl f => .inl f
      | .inr r3 => .inr (d, u, r3)
def tz_tmP (c : Nat → Nat) (t : Nat) (so : Int32) (p : Nat) : (Nat × Nat) ⊕ (Int32 × Nat) := match tz_num c t (if so = 0 then 1 else 0) (if so = 0 then 9999 else 99999) p with
  | .inl f => .inl f
  | .inr (k, r4) => match tz_semi c t r4 with
    | .inl f => .inl f
    | .inr r5 => .inr (k, r5)
section PCL
variable {w : pm_H} {fk fp pl nx tk va : Int32} {c : Nat → Nat} {B : Nat → Int32} {t p j z n N : Nat} {Y : Nat → Nat → Int32}
theorem rwYW {Y : Nat → Nat → Int32} (hz : 48 < z) : pm_YW (pm_Rw w fk fp pl nx tk va) z Y = pm_Rw (pm_YW w z Y) fk fp pl nx tk va := by
  funext k
  by_cases e : k = 20
  · subst e
    rw [pm_YWo (by omega)]; rfl
  · rw [rwo e]
    unfold pm_YW pm_Yw
    rw [rwo e]
theorem rwYr (hz : 48 < z) : pm_Yr (pm_Rw (pm_YW w z Y) fk fp pl nx tk va) z Y := pm_Yr_of pm_YWr (fun k h1 h2 => rwo (by omega))
theorem ru_o {k : Nat} {e : va_E} (hk : k ≠ 20) : pm_up (pm_Rw w fk fp pl nx tk va) k e = pm_Rw (pm_up w k e) fk fp pl nx tk va := by
  funext j
  by_cases h : j = k
  · subst h; rw [pm_up_same, rwo hk, pm_up_same]
  · rw [pm_up_ne h]
    by_cases e2 : j = 20
    · subst e2; rfl
    · rw [rwo e2, rwo e2, pm_up_ne h]
theorem cYW10 (hz : 48 < z) (h10 : w 10 = some (.inr (3, [.ref 11, .int (nI t)]))) : pm_YW w z Y 10 = some (.inr (3, [.ref 11, .int (nI t)])) := by rw [pm_YWo (by omega)]; exact h10
theorem cYW11 (hz : 48 < z) (h11 : w 11 = some (.inl (2, 740, .inl B))) : pm_YW w z Y 11 = some (.inl (2, 740, .inl B)) := by rw [pm_YWo (by omega)]; exact h11
theorem c_addEvent (hz : 48 < z) {s d u : Int32} (hn : Y 3 0 = nI n) (h20 : n < 20) : pm_call 37 [.ref z, .int s, .int d, .int u] (pm_Rw (pm_YW w z Y) fk fp pl nx tk va) = some (none, pm_Rw (pm_YW w z (ab_ev Y n s d u)) fk fp pl nx tk va) := by
  rw [← rwYW hz, ← rwYW hz]
  have := q_addEvent (w := pm_Rw w fk fp pl nx tk va) (y := z) (f0 := Y 0 0) (p1 := Y 1) (p2 := Y 2) (p4 := Y 4) (p5 := Y 5) (p6 := Y 6) (f7 := Y 7 0) (p8 := Y 8) (p9 := Y 9) (p10 := Y 10) (p11 := Y 11) (s := s) (d := d) (u := u) h20
  rw [← hn] at this
  exact this
theorem c_addInstr (hz : 48 < z) {s d u k : Int32} (hN : Y 7 0 = nI N) (h8 : N < 8) : pm_call 39 [.ref z, .int s, .int d, .int u, .int k] (pm_Rw (pm_YW w z Y) fk fp pl nx tk va) = some (none, pm_Rw (pm_YW w z (ab_in Y N s d u k)) fk fp pl nx tk va) := by
  rw [← rwYW hz, ← rwYW hz]
  have := q_addInstrument (w := pm_Rw w fk fp pl nx tk va) (y := z) (f0 := Y 0 0) (p1 := Y 1) (p2 := Y 2) (f3 := Y 3 0) (p4 := Y 4) (p5 := Y 5) (p6 := Y 6) (p8 := Y 8) (p9 := Y 9) (p10 := Y 10) (p11 := Y 11) (s := s) (d := d) (u := u) (t := k) h8
  rw [← hN] at this
  exact this
theorem c_put0 (hz : 48 < z) {v : Int32} : pm_up (pm_Rw (pm_YW w z Y) fk fp pl nx tk va) z (.inr (4, [.int v, .ref (z + 2), .ref (z + 3), .int (Y 3 0), .ref (z + 5), .ref (z + 6), .ref (z + 7), .int (Y 7 0), .ref (z + 9), .ref (z + 10), .ref (z + 11), .ref (z + 12)])) = pm_Rw (pm_YW w z (ab_set Y 0 (fun _ => v))) fk fp pl nx tk va := by
  rw [ru_o (by omega)]
  congr 1
  exact yu0
theorem c_put1 (hz : 48 < z) {f : Nat → Int32} : pm_up (pm_Rw (pm_YW w z Y) fk fp pl nx tk va) (z + 2) (.inl (0, 4, .inl f)) = pm_Rw (pm_YW w z (ab_set Y 1 f)) fk fp pl nx tk va := by
  rw [ru_o (by omega)]
  congr 1
  exact yu2
theorem c_put2 (hz : 48 < z) {f : Nat → Int32} : pm_up (pm_Rw (pm_YW w z Y) fk fp pl nx tk va) (z + 3) (.inl (0, 4, .inl f)) = pm_Rw (pm_YW w z (ab_set Y 2 f)) fk fp pl nx tk va := by
  rw [ru_o (by omega)]
  congr 1
  exact yu3
/-- the first line, behind its word -/
theorem c_shares (hz : 48 < z) (h10 : w 10 = some (.inr (3, [.ref 11, .int (nI t)]))) (h11 : w 11 = some (.inl (2, 740, .inl B))) (hB : tz_B B c t) (ht : t ≤ 740) (hp : p ≤ t) (hc : tz_ccur c t p pl nx tk va) :
    (∀ k s, (tz_word c t 0 p = .inl (k, s) ∨ ∃ r, tz_word c t 0 p = .inr r ∧ tz_shP c t r = .inl (k, s)) → ∃ (Y' : Nat → Nat → Int32) (pl' nx' tk' va' : Int32), pm_call 17 [.ref 20, .ref z] (pm_Rw (pm_YW w z Y) fk fp pl nx tk va) = some (some (.int 0), pm_Rw (pm_YW w z Y') (nI k) (nI s) pl' nx' tk' va')) ∧
    (∀ r v r', tz_word c t 0 p = .inr r → tz_shP c t r = .inr (v, r') → ∃ pl' tk' va' : Int32, pm_call 17 [.ref 20, .ref z] (pm_Rw (pm_YW w z Y) fk fp pl nx tk va) = some (some (.int 1), pm_Rw (pm_YW w z (ab_set Y 0 (fun _ => v))) fk fp pl' (nI r') tk' va')) := by
  obtain ⟨g1, g2⟩ := c_isWord (w := pm_YW w z Y) (fk := fk) (fp := fp) (j := 0) (cYW10 hz h10) (cYW11 hz h11) hB ht hp (by omega) hc
  have a0 : ∀ r, tz_word c t 0 p = .inr r → pm_call 17 [.ref 20, .ref z] (pm_Rw (pm_YW w z Y) fk fp pl nx tk va) = pm_ev 17 15 [some (.ref 20), some (.ref z)] [] (pm_Rw (pm_YW w z Y) fk fp pl (nI r) tk va) := by
    intro r h
    obtain ⟨e1, e2⟩ := tz_word_t h
    simp only [pe17, z17_0, z17_1, z17_3, z17_6, pm_kv_some, pm_kw_some, pm_k_some, pm_k_void, pm_vc_some, pm_kl_some, rw20, g1 e1]
    rw [if_neg (by decide), e2, ← hc.2.2.1 (Or.inl e1.1)]
  refine ⟨fun k s h => ?_, fun r v r' h1 h2 => ?_⟩
  · rcases h with h | ⟨r, h, h2⟩
    · obtain ⟨e1, e2, e3⟩ := tz_word_f h
      refine ⟨Y, pl, nx, tk, va, ?_⟩
      simp only [pe17, z17_0, z17_1, z17_3, z17_6, pm_kv_some, pm_kw_some, pm_k_some, pm_k_void, pm_vc_some, pm_kl_some, rw20, g2 e1]
      rw [if_pos trivial]
      simp only [z17_9, z17_10, z17_11, z17_14, pm_kv_some, pm_kw_some, pm_k_some, pm_k_void, pm_vc_some, pm_kl_some, rw20, q_fail, pm_zr0]
      rw [e2, e3, ← hc.1]; rfl
    · have hr := tz_word_le hp h
      rw [a0 r h]
      obtain ⟨n1, n2⟩ := c_number (w := pm_YW w z Y) (fk := fk) (fp := fp) (pl := pl) (tk := tk) (va := va) (cYW10 hz h10) (cYW11 hz h11) hB ht hr (lo := 1) (hi := 99999)
      unfold tz_shP at h2
      cases e : tz_num c t 1 99999 r with
      | inl f =>
        rw [e] at h2
        injection h2 with h2
        subst h2
        obtain ⟨pl', nx', tk', va', h3⟩ := n1 k s e
        refine ⟨Y, pl', nx', tk', va', ?_⟩
        simp only [z17_15, z17_16, z17_17, z17_19, z17_22, pm_kv_some, pm_kw_some, pm_k_some, pm_k_void, pm_vc_some, pm_kl_some, rw20, h3]
        rw [if_pos trivial]
        simp only [z17_25, z17_26, pm_zr0]
      | inr x =>
        obtain ⟨v, r2⟩ := x
        rw [e] at h2
        have hr2 := (tz_num_le hr e).1
        obtain ⟨pl', tk', h3⟩ := n2 v r2 e
        obtain ⟨m1, m2⟩ := c_semi (w := pm_YW w z (ab_set Y 0 (fun _ => v))) (fk := fk) (fp := fp) (pl := pl') (tk := tk') (va := v) (cYW10 hz h10) (cYW11 hz h11) hB ht hr2
        cases e2 : tz_semi c t r2 with
        | inl f =>
          simp only [e2] at h2
          injection h2 with h2
          subst h2
          obtain ⟨pl2, nx2, tk2, va2, h4⟩ := m1 k s e2
          refine ⟨ab_set Y 0 (fun _ => v), pl2, nx2, tk2, va2, ?_⟩
          simp only [z17_15, z17_16, z17_17, z17_19, z17_22, pm_kv_some, pm_kw_some, pm_k_some, pm_k_void, pm_vc_some, pm_kl_some, rw20, h3]
          rw [if_neg (by decide)]
          simp only [z17_27, z17_28, z17_29, z17_32, z17_35, z17_36, z17_39, pm_kv_some, pm_kw_some, pm_k_some, pm_k_void, pm_vc_some, pm_kl_some, pg2_0, pg2_1, pg2_2, pg2_3, pg2_4, pg2_5, pg2_6, pp4_0, pp4_3, pp4_7, rw20, (rwYr hz).1, c_put0 hz, h4, pm_zr0]
        | inr r3 => simp only [e2] at h2; cases h2
  · have hr := tz_word_le hp h1
    rw [a0 r h1]
    obtain ⟨n1, n2⟩ := c_number (w := pm_YW w z Y) (fk := fk) (fp := fp) (pl := pl) (tk := tk) (va := va) (cYW10 hz h10) (cYW11 hz h11) hB ht hr (lo := 1) (hi := 99999)
    unfold tz_shP at h2
    cases e : tz_num c t 1 99999 r with
    | inl f => rw [e] at h2; cases h2
    | inr x =>
      obtain ⟨v1, r2⟩ := x
      rw [e] at h2
      have hr2 := (tz_num_le hr e).1
      obtain ⟨pl', tk', h3⟩ := n2 v1 r2 e
      obtain ⟨m1, m2⟩ := c_semi (w := pm_YW w z (ab_set Y 0 (fun _ => v1))) (fk := fk) (fp := fp) (pl := pl') (tk := tk') (va := v1) (cYW10 hz h10) (cYW11 hz h11) hB ht hr2
      cases e2 : tz_semi c t r2 with
      | inl f => simp only [e2] at h2; cases h2
      | inr r3 =>
        simp only [e2] at h2
        injection h2 with h2
        injection h2 with h4 h5
        subst h4; subst h5
        obtain ⟨pl2, tk2, va2, h6⟩ := m2 r3 e2
        refine ⟨pl2, tk2, va2, ?_⟩
        simp only [z17_15, z17_16, z17_17, z17_19, z17_22, pm_kv_some, pm_kw_some, pm_k_some, pm_k_void, pm_vc_some, pm_kl_some, rw20, h3]
        rw [if_neg (by decide)]
        simp only [z17_27, z17_28, z17_29, z17_32, z17_35, z17_36, z17_39, pm_kv_some, pm_kw_some, pm_k_some, pm_k_void, pm_vc_some, pm_kl_some, pg2_0, pg2_1, pg2_2, pg2_3, pg2_4, pg2_5, pg2_6, pp4_0, pp4_3, pp4_7, rw20, (rwYr hz).1, c_put0 hz, h6, pm_zr1]
end PCL
