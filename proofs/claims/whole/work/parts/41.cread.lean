/-! THE READER (class 2, at 20): tokens -/
def pm_Rw (w : pm_H) (fk fp pl nx tk va : Int32) : pm_H := fun k => if k = 20 then some (.inr (2, [.ref 10, .int fk, .int fp, .int pl, .int nx, .int tk, .int va])) else w k
section PRD
variable {w : pm_H} {fk fp pl nx tk va fk' fp' pl' nx' tk' va' : Int32} {c : Nat → Nat} {B : Nat → Int32} {t : Nat}
theorem rw20 : pm_Rw w fk fp pl nx tk va 20 = some (.inr (2, [.ref 10, .int fk, .int fp, .int pl, .int nx, .int tk, .int va])) := rfl
theorem rwo {k : Nat} (h : k ≠ 20) : pm_Rw w fk fp pl nx tk va k = w k := if_neg h
theorem rw10 : pm_Rw w fk fp pl nx tk va 10 = w 10 := rfl
theorem rw11 : pm_Rw w fk fp pl nx tk va 11 = w 11 := rfl
theorem ru20 : pm_up (pm_Rw w fk fp pl nx tk va) 20 (.inr (2, [.ref 10, .int fk', .int fp', .int pl', .int nx', .int tk', .int va'])) = pm_Rw w fk' fp' pl' nx' tk' va' := by
  funext k; unfold pm_up pm_Rw; by_cases h : k = 20
  · rw [if_pos h, if_pos h]
  · rw [if_neg h, if_neg h, if_neg h]
theorem rwe (h : w 20 = some (.inr (2, [.ref 10, .int fk, .int fp, .int pl, .int nx, .int tk, .int va]))) : pm_Rw w fk fp pl nx tk va = w := by
  funext k; unfold pm_Rw; by_cases e : k = 20
  · rw [if_pos e, e, h]
  · rw [if_neg e]
def tz_B (B : Nat → Int32) (c : Nat → Nat) (t : Nat) : Prop := ∀ j, j < t → c j < 256 ∧ B j = tz_b (c j)
theorem q_fail {k : Int32} : pm_call 16 [.ref 20, .int k] (pm_Rw w fk fp pl nx tk va) = some (some (.int 0), pm_Rw w k pl pl nx tk va) := by
  simp only [pe16, z16_0, z16_1, z16_2, z16_5, z16_6, z16_7, z16_10, z16_13, z16_14, pm_kv_some, pm_kw_some, pm_k_some, pm_k_void, pm_vc_some, pm_kl_some, pg2_0, pg2_1, pg2_2, pg2_3, pg2_4, pg2_5, pg2_6, pp2_1, pp2_2, pp2_3, pp2_4, pp2_5, pp2_6, rw20, ru20, pm_zr0]
/-- blanks are skipped -/
theorem q_skip (h10 : w 10 = some (.inr (3, [.ref 11, .int (nI t)]))) (h11 : w 11 = some (.inl (2, 740, .inl B))) (hB : tz_B B c t) (ht : t ≤ 740) {e : Nat} (he : e ≤ t) : ∀ (m p : Nat), p + m ≤ e → (∀ j, p ≤ j → j < p + m → c j = 32 ∨ c j = 10) → pm_ev 13 14 [some (.ref 20), some (.int (nI e))] [] (pm_Rw w fk fp pl (nI p) tk va) = pm_ev 13 14 [some (.ref 20), some (.int (nI e))] [] (pm_Rw w fk fp pl (nI (p + m)) tk va) := by
  intro m
  induction m with
  | zero => intro p _ _; rfl
  | succ m ih =>
    intro p hp hj
    obtain ⟨b1, b2⟩ := hB p (by omega)
    have hin := vp_in_nI (show p < 740 by omega) (by omega)
    have go : pm_ev 13 56 [some (.ref 20), some (.int (nI e))] [] (pm_Rw w fk fp pl (nI p) tk va) = pm_ev 13 14 [some (.ref 20), some (.int (nI e))] [] (pm_Rw w fk fp pl (nI (p + 1)) tk va) := by
      conv => lhs; simp only [z13_56, z13_57, z13_58, z13_61, z13_62, z13_63, z13_66, pm_kv_some, pm_kw_some, pm_k_some, pm_k_void, pm_vc_some, pm_kl_some, pg2_0, pg2_1, pg2_2, pg2_3, pg2_4, pg2_5, pg2_6, pp2_1, pp2_2, pp2_3, pp2_4, pp2_5, pp2_6, rw20, ru20, nI_1]
    rw [show p + (m + 1) = p + 1 + m by omega, ← ih (p + 1) (by omega) (fun j h1 h2 => hj j (by omega) (by omega)), ← go]
    conv => lhs; simp only [z13_14, z13_15, z13_18, z13_19, pm_kv_some, pm_kw_some, pm_k_some, pm_k_void, pm_vc_some, pm_kl_some, pg2_0, pg2_1, pg2_2, pg2_3, pg2_4, pg2_5, pg2_6, rw20]
    rw [if_pos (nI_lt (by omega) (by omega))]
    simp only [z13_22, z13_23, z13_26, z13_29, z13_30, z13_33, z13_34, z13_36, pm_kv_some, pm_kw_some, pm_k_some, pm_k_void, pm_vc_some, pm_kl_some, pg2_0, pg2_1, pg2_2, pg2_3, pg2_4, pg2_5, pg2_6, pg3_0, pg3_1, rw20, rw10, rw11, h10, h11, pm_ia_in hin, nI_clamp (show p < 2 ^ 31 by omega), b2]
    rcases hj p (by omega) (by omega) with e1 | e1
    · rw [if_pos (show tz_b (c p) = 32 from (tz_b_e (v := 32) b1 (by omega)).mpr e1)]
    · rw [if_neg (fun z => by have := (tz_b_e (v := 32) b1 (by omega)).mp z; omega)]
      simp only [z13_39, z13_40, z13_43, z13_46, z13_47, z13_50, z13_51, z13_53, pm_kv_some, pm_kw_some, pm_k_some, pm_k_void, pm_vc_some, pm_kl_some, pg2_0, pg2_1, pg2_2, pg2_3, pg2_4, pg2_5, pg2_6, pg3_0, pg3_1, rw20, rw10, rw11, h10, h11, pm_ia_in hin, nI_clamp (show p < 2 ^ 31 by omega), b2]
      rw [if_pos (show tz_b (c p) = 10 from (tz_b_e (v := 10) b1 (by omega)).mpr e1)]
/-- letters and digits are read -/
theorem q_ld_loop (h10 : w 10 = some (.inr (3, [.ref 11, .int (nI t)]))) (h11 : w 11 = some (.inl (2, 740, .inl B))) (hB : tz_B B c t) (ht : t ≤ 740) {s : Nat} : ∀ (m p : Nat) (x : Option Value), s + p + m ≤ t → (∀ j, s + p ≤ j → j < s + p + m → (97 ≤ c j ∧ c j ≤ 122) ∨ (48 ≤ c j ∧ c j ≤ 57)) → ∃ x' : Option Value, pm_ev 14 11 [some (.ref 20), some (.int (nI (tz_nl c s p))), some (.int (nI (tz_nd c s p))), some (.int 1), x] [] (pm_Rw w fk fp pl (nI (s + p)) tk (tz_v c s p)) = pm_ev 14 11 [some (.ref 20), some (.int (nI (tz_nl c s (p + m)))), some (.int (nI (tz_nd c s (p + m)))), some (.int 1), x'] [] (pm_Rw w fk fp pl (nI (s + p + m)) tk (tz_v c s (p + m))) := by
  intro m
  induction m with
  | zero => intro p x _ _; exact ⟨x, rfl⟩
  | succ m ih =>
    intro p x hp hj
    obtain ⟨b1, b2⟩ := hB (s + p) (by omega)
    have hin := vp_in_nI (show s + p < 740 by omega) (by omega)
    have hnd := tz_nd_le (c := c) (s := s) p
    have hc := hj (s + p) (by omega) (by omega)
    have bn : tz_b (c (s + p)) = nI (c (s + p)) := tz_b_n (by omega)
    obtain ⟨x', hx'⟩ := ih (p + 1) (some (.int (nI (c (s + p))))) (by omega) (fun j h1 h2 => hj j (by omega) (by omega))
    refine ⟨x', ?_⟩
    rw [show p + (m + 1) = p + 1 + m by omega, show s + p + (m + 1) = s + (p + 1) + m by omega, ← hx']
    conv => lhs; simp only [z14_11, z14_12]
    rw [if_neg (by decide)]
    simp only [z14_15, z14_16, z14_19, z14_20, z14_23, z14_26, pm_kv_some, pm_kw_some, pm_k_some, pm_k_void, pm_vc_some, pm_kl_some, pg2_0, pg2_1, pg2_2, pg2_3, pg2_4, pg2_5, pg2_6, pg3_0, pg3_1, rw20, rw10, h10]
    rw [if_pos (nI_lt (by omega) (by omega))]
    simp only [z14_29, z14_30, z14_33, z14_36, z14_37, z14_40, z14_41, z14_43, z14_45, z14_47, pm_kv_some, pm_kw_some, pm_k_some, pm_k_void, pm_vc_some, pm_kl_some, pg2_0, pg2_1, pg2_2, pg2_3, pg2_4, pg2_5, pg2_6, pg3_0, pg3_1, rw20, rw10, rw11, h10, h11, pm_ia_in hin, nI_clamp (show s + p < 2 ^ 31 by omega), b2, bn]
    by_cases e1 : 97 ≤ c (s + p) ∧ c (s + p) ≤ 122
    · rw [if_neg (show ¬ nI (c (s + p)) < 97 from nI_nlt (b := 97) e1.1 (by omega))]
      simp only [z14_50, z14_52, z14_54]
      rw [if_neg (show ¬ 122 < nI (c (s + p)) from nI_nlt (a := 122) e1.2 (by omega))]
      have l1 : tz_nl c s (p + 1) = tz_nl c s p + 1 := by
        show tz_nl c s p + (if _ then 1 else 0) = _
        rw [if_pos e1]
      have d1 : tz_nd c s (p + 1) = tz_nd c s p := by
        show tz_nd c s p + (if _ then 1 else 0) = _
        rw [if_neg (by omega)]; rfl
      have v1 : tz_v c s (p + 1) = tz_v c s p := by
        show (if _ then _ else _) = _
        rw [if_pos e1]
      rw [l1, d1, v1]
      simp only [z14_57, z14_60, z14_111, z14_112, nI_1]
      rw [if_neg (by decide)]
      simp only [z14_115, z14_116, z14_117, z14_120, z14_121, z14_122, z14_125, pm_kv_some, pm_kw_some, pm_k_some, pm_k_void, pm_vc_some, pm_kl_some, pg2_0, pg2_1, pg2_2, pg2_3, pg2_4, pg2_5, pg2_6, pp2_1, pp2_2, pp2_3, pp2_4, pp2_5, pp2_6, rw20, ru20, nI_1]
      rfl
    · have e2 := hc.resolve_left e1
      have l1 : tz_nl c s (p + 1) = tz_nl c s p := by
        show tz_nl c s p + (if _ then 1 else 0) = _
        rw [if_neg e1]; rfl
      have d1 : tz_nd c s (p + 1) = tz_nd c s p + 1 := by
        show tz_nd c s p + (if _ then 1 else 0) = _
        rw [if_pos e2]
      have v1 : tz_v c s (p + 1) = if tz_nd c s p + 1 ≤ 5 then tz_v c s p * 10 + nI (c (s + p)) - 48 else 0 := by
        show (if _ then _ else _) = _
        rw [if_neg e1, d1]
      rw [l1, d1, v1]
      rw [if_pos (show nI (c (s + p)) < 97 from nI_lt (b := 97) (by omega) (by omega))]
      simp only [z14_63, z14_65, z14_67]
      rw [if_neg (show ¬ nI (c (s + p)) < 48 from nI_nlt (b := 48) e2.1 (by omega))]
      simp only [z14_70, z14_72, z14_74]
      rw [if_neg (show ¬ 57 < nI (c (s + p)) from nI_nlt (a := 57) e2.2 (by omega))]
      simp only [z14_77, z14_80, z14_81, z14_82, z14_83, nI_1]
      by_cases e3 : tz_nd c s p + 1 ≤ 5
      · rw [if_neg (show ¬ 5 < nI (tz_nd c s p + 1) from nI_nlt (a := 5) e3 (by omega)), if_pos e3]
        simp only [z14_86, z14_87, z14_90, z14_92, z14_93, z14_95, z14_96, z14_98, z14_99, z14_102, z14_103, z14_106, z14_111, z14_112, pm_kv_some, pm_kw_some, pm_k_some, pm_k_void, pm_vc_some, pm_kl_some, pg2_0, pg2_1, pg2_2, pg2_3, pg2_4, pg2_5, pg2_6, pp2_1, pp2_2, pp2_3, pp2_4, pp2_5, pp2_6, rw20, ru20]
        rw [if_neg (by decide)]
        simp only [z14_115, z14_116, z14_117, z14_120, z14_121, z14_122, z14_125, pm_kv_some, pm_kw_some, pm_k_some, pm_k_void, pm_vc_some, pm_kl_some, pg2_0, pg2_1, pg2_2, pg2_3, pg2_4, pg2_5, pg2_6, pp2_1, pp2_2, pp2_3, pp2_4, pp2_5, pp2_6, rw20, ru20, nI_1]
        rfl
      · rw [if_pos (show 5 < nI (tz_nd c s p + 1) from nI_lt (a := 5) (by omega) (by omega)), if_neg e3]
        simp only [z14_102, z14_103, z14_106, z14_111, z14_112, pm_kv_some, pm_kw_some, pm_k_some, pm_k_void, pm_vc_some, pm_kl_some, pg2_0, pg2_1, pg2_2, pg2_3, pg2_4, pg2_5, pg2_6, pp2_1, pp2_2, pp2_3, pp2_4, pp2_5, pp2_6, rw20, ru20]
        rw [if_neg (by decide)]
        simp only [z14_115, z14_116, z14_117, z14_120, z14_121, z14_122, z14_125, pm_kv_some, pm_kw_some, pm_k_some, pm_k_void, pm_vc_some, pm_kl_some, pg2_0, pg2_1, pg2_2, pg2_3, pg2_4, pg2_5, pg2_6, pp2_1, pp2_2, pp2_3, pp2_4, pp2_5, pp2_6, rw20, ru20, nI_1]
        rfl
theorem q_ld (h10 : w 10 = some (.inr (3, [.ref 11, .int (nI t)]))) (h11 : w 11 = some (.inl (2, 740, .inl B))) (hB : tz_B B c t) (ht : t ≤ 740) {s r : Nat} (hsr : s ≤ r) (hr : r ≤ t) (h1 : ∀ j, s ≤ j → j < r → (97 ≤ c j ∧ c j ≤ 122) ∨ (48 ≤ c j ∧ c j ≤ 57)) (h2 : r < t → ¬ ((97 ≤ c r ∧ c r ≤ 122) ∨ (48 ≤ c r ∧ c r ≤ 57))) : pm_call 14 [.ref 20] (pm_Rw w fk fp pl (nI s) tk va) = some (none, pm_Rw w fk fp pl (nI r) (nI (if 0 < tz_nl c s (r - s) ∧ tz_nd c s (r - s) = 0 then 1 else if tz_nl c s (r - s) = 0 ∧ 1 ≤ tz_nd c s (r - s) ∧ tz_nd c s (r - s) ≤ 5 then 2 else 4)) (tz_v c s (r - s))) := by
  obtain ⟨x', hx⟩ := q_ld_loop (w := w) (fk := fk) (fp := fp) (pl := pl) (tk := tk) h10 h11 hB ht (s := s) (r - s) 0 none (by omega) (fun j h3 h4 => h1 j (by omega) (by omega))
  rw [Nat.zero_add, Nat.add_zero, show s + (r - s) = r by omega] at hx
  have hx0 : pm_call 14 [.ref 20] (pm_Rw w fk fp pl (nI s) tk va) = pm_ev 14 11 [some (.ref 20), some (.int (nI (tz_nl c s 0))), some (.int (nI (tz_nd c s 0))), some (.int 1), none] [] (pm_Rw w fk fp pl (nI s) tk (tz_v c s 0)) := by
    conv => lhs; simp only [pe14, z14_0, z14_1, z14_2, z14_3, z14_4, z14_5, z14_6, z14_9, z14_10, pm_kv_some, pm_kw_some, pm_k_some, pm_k_void, pm_vc_some, pm_kl_some, pp2_1, pp2_2, pp2_3, pp2_4, pp2_5, pp2_6, rw20, ru20]
    rfl
  rw [hx0, hx]
  have hnl := tz_nl_le (c := c) (s := s) (r - s)
  have hnd := tz_nd_le (c := c) (s := s) (r - s)
  have fin : ∀ (g : Int32) (x : Option Value), pm_ev 14 128 [some (.ref 20), some (.int (nI (tz_nl c s (r - s)))), some (.int (nI (tz_nd c s (r - s)))), some (.int g), x] [] (pm_Rw w fk fp pl (nI r) tk (tz_v c s (r - s))) = some (none, pm_Rw w fk fp pl (nI r) (nI (if 0 < tz_nl c s (r - s) ∧ tz_nd c s (r - s) = 0 then 1 else if tz_nl c s (r - s) = 0 ∧ 1 ≤ tz_nd c s (r - s) ∧ tz_nd c s (r - s) ≤ 5 then 2 else 4)) (tz_v c s (r - s))) := by
    intro g x
    generalize tz_nl c s (r - s) = L at *
    generalize tz_nd c s (r - s) = D at *
    have f4 : pm_ev 14 166 [some (.ref 20), some (.int (nI L)), some (.int (nI D)), some (.int g), x] [] (pm_Rw w fk fp pl (nI r) tk (tz_v c s (r - s))) = some (none, pm_Rw w fk fp pl (nI r) 4 (tz_v c s (r - s))) := by
      simp only [z14_166, z14_167, z14_168, z14_171, pm_kv_some, pm_kw_some, pm_k_some, pm_k_void, pm_vc_some, pm_kl_some, pp2_1, pp2_2, pp2_3, pp2_4, pp2_5, pp2_6, rw20, ru20]
    have f144 : pm_ev 14 144 [some (.ref 20), some (.int (nI L)), some (.int (nI D)), some (.int g), x] [] (pm_Rw w fk fp pl (nI r) tk (tz_v c s (r - s))) = some (none, pm_Rw w fk fp pl (nI r) (nI (if L = 0 ∧ 1 ≤ D ∧ D ≤ 5 then 2 else 4)) (tz_v c s (r - s))) := by
      simp only [z14_144, z14_145]
      by_cases e1 : L = 0
      · subst e1
        rw [if_pos nI_0]
        simp only [z14_148, z14_149, z14_150]
        by_cases e2 : 1 ≤ D
        · rw [if_neg (show ¬ nI D < 1 from nI_nlt (b := 1) e2 (by omega))]
          simp only [z14_153, z14_154, z14_155]
          by_cases e3 : D ≤ 5
          · rw [if_neg (show ¬ 5 < nI D from nI_nlt (a := 5) e3 (by omega)), if_pos ⟨trivial, e2, e3⟩]
            simp only [z14_158, z14_159, z14_160, z14_163, z14_171, pm_kv_some, pm_kw_some, pm_k_some, pm_k_void, pm_vc_some, pm_kl_some, pp2_1, pp2_2, pp2_3, pp2_4, pp2_5, pp2_6, rw20, ru20]
            rfl
          · rw [if_pos (show 5 < nI D from nI_lt (a := 5) (by omega) (by omega)), if_neg (fun z => e3 z.2.2)]
            exact f4
        · rw [if_pos (show nI D < 1 from nI_lt (b := 1) (by omega) (by omega)), if_neg (fun z => e2 z.2.1)]
          exact f4
      · rw [if_neg (nI_ne0 (by omega) (by omega)), if_neg (fun z => e1 z.1)]
        exact f4
    simp only [z14_128, z14_129]
    by_cases e1 : 0 < L
    · rw [if_pos (show 0 < nI L from nI_lt (a := 0) e1 (by omega))]
      simp only [z14_132, z14_133]
      by_cases e2 : D = 0
      · subst e2
        rw [if_pos nI_0, if_pos ⟨e1, rfl⟩]
        simp only [z14_136, z14_137, z14_138, z14_141, z14_171, pm_kv_some, pm_kw_some, pm_k_some, pm_k_void, pm_vc_some, pm_kl_some, pp2_1, pp2_2, pp2_3, pp2_4, pp2_5, pp2_6, rw20, ru20]
        rfl
      · rw [if_neg (nI_ne0 (by omega) (by omega)), if_neg (fun z => e2 z.2)]
        exact f144
    · rw [if_neg (show ¬ 0 < nI L from nI_nlt (a := 0) (b := L) (by omega) (by omega) ), if_neg (fun z => e1 z.1)]
      exact f144
  simp only [z14_11, z14_12]
  rw [if_neg (by decide)]
  simp only [z14_15, z14_16, z14_19, z14_20, z14_23, z14_26, pm_kv_some, pm_kw_some, pm_k_some, pm_k_void, pm_vc_some, pm_kl_some, pg2_0, pg2_1, pg2_2, pg2_3, pg2_4, pg2_5, pg2_6, pg3_0, pg3_1, rw20, rw10, h10]
  by_cases e0 : r < t
  · rw [if_pos (nI_lt e0 (by omega))]
    obtain ⟨b1, b2⟩ := hB r e0
    have hin := vp_in_nI (show r < 740 by omega) (by omega)
    have hn := h2 e0
    have off : pm_ev 14 109 [some (.ref 20), some (.int (nI (tz_nl c s (r - s)))), some (.int (nI (tz_nd c s (r - s)))), some (.int 1), some (.int (tz_b (c r)))] [] (pm_Rw w fk fp pl (nI r) tk (tz_v c s (r - s))) = some (none, pm_Rw w fk fp pl (nI r) (nI (if 0 < tz_nl c s (r - s) ∧ tz_nd c s (r - s) = 0 then 1 else if tz_nl c s (r - s) = 0 ∧ 1 ≤ tz_nd c s (r - s) ∧ tz_nd c s (r - s) ≤ 5 then 2 else 4)) (tz_v c s (r - s))) := by
      simp only [z14_109, z14_110, z14_111, z14_112]
      rw [if_pos trivial]
      simp only [z14_125, z14_11, z14_12]
      rw [if_pos trivial]
      exact fin _ _
    have d63 : ¬ (48 ≤ c r ∧ c r ≤ 57) → pm_ev 14 63 [some (.ref 20), some (.int (nI (tz_nl c s (r - s)))), some (.int (nI (tz_nd c s (r - s)))), some (.int 1), some (.int (tz_b (c r)))] [] (pm_Rw w fk fp pl (nI r) tk (tz_v c s (r - s))) = some (none, pm_Rw w fk fp pl (nI r) (nI (if 0 < tz_nl c s (r - s) ∧ tz_nd c s (r - s) = 0 then 1 else if tz_nl c s (r - s) = 0 ∧ 1 ≤ tz_nd c s (r - s) ∧ tz_nd c s (r - s) ≤ 5 then 2 else 4)) (tz_v c s (r - s))) := by
      intro hd
      simp only [z14_63, z14_65, z14_67]
      by_cases g1 : tz_b (c r) < 48
      · rw [if_pos g1]; exact off
      · rw [if_neg g1]
        simp only [z14_70, z14_72, z14_74]
        have g1' : ¬ (c r < 48 ∨ 128 ≤ c r) := fun z => g1 ((tz_b_lt (v := 48) b1 (by omega)).mpr z)
        rw [if_pos (show 57 < tz_b (c r) from (tz_b_gt (v := 57) b1 (by omega)).mpr (by omega))]
        exact off
    simp only [z14_29, z14_30, z14_33, z14_36, z14_37, z14_40, z14_41, z14_43, z14_45, z14_47, pm_kv_some, pm_kw_some, pm_k_some, pm_k_void, pm_vc_some, pm_kl_some, pg2_0, pg2_1, pg2_2, pg2_3, pg2_4, pg2_5, pg2_6, pg3_0, pg3_1, rw20, rw10, rw11, h10, h11, pm_ia_in hin, nI_clamp (show r < 2 ^ 31 by omega), b2]
    by_cases g1 : tz_b (c r) < 97
    · rw [if_pos g1]; exact d63 (by omega)
    · rw [if_neg g1]
      simp only [z14_50, z14_52, z14_54]
      have g1' : ¬ (c r < 97 ∨ 128 ≤ c r) := fun z => g1 ((tz_b_lt (v := 97) b1 (by omega)).mpr z)
      rw [if_pos (show 122 < tz_b (c r) from (tz_b_gt (v := 122) b1 (by omega)).mpr (by omega))]
      exact d63 (by omega)
  · rw [if_neg (nI_nlt (by omega) (by omega))]
    exact fin _ _
theorem q_step (h10 : w 10 = some (.inr (3, [.ref 11, .int (nI t)]))) (h11 : w 11 = some (.inl (2, 740, .inl B))) (hB : tz_B B c t) (ht : t ≤ 740) {p k s r : Nat} (hp : p ≤ t) (h : tz_at c t p k s r) : ∃ nx' va' : Int32, pm_call 13 [.ref 20] (pm_Rw w fk fp pl (nI p) tk va) = some (none, pm_Rw w fk fp (nI s) nx' (nI (if k = 5 then 0 else k)) va') ∧ (k = 1 ∨ k = 2 ∨ k = 3 → nx' = nI r) ∧ (k = 2 → va' = tz_v c s (r - s)) := by
  have emin : ab_mn (nI t) 700 = nI (min t 700) := by
    unfold ab_mn
    by_cases e : 700 < t
    · rw [if_pos (show 700 < nI t from nI_lt (a := 700) e (by omega)), show min t 700 = 700 by omega]; rfl
    · rw [if_neg (show ¬ 700 < nI t from nI_nlt (a := 700) (by omega) (by omega)), show min t 700 = t by omega]
  have st : pm_call 13 [.ref 20] (pm_Rw w fk fp pl (nI p) tk va) = pm_ev 13 14 [some (.ref 20), some (.int (nI (min t 700)))] [] (pm_Rw w fk fp pl (nI p) tk va) := by
    conv => lhs; simp only [pe13, z13_0, z13_1, z13_4, z13_7, z13_10, z13_13, pm_kv_some, pm_kw_some, pm_k_some, pm_k_void, pm_vc_some, pm_kl_some, pg2_0, pg2_1, pg2_2, pg2_3, pg2_4, pg2_5, pg2_6, pg3_0, pg3_1, rw20, rw10, h10, q_min, emin]
  rw [st]
  have theend : ∀ q : Nat, min t 700 ≤ q → q ≤ t → pm_ev 13 14 [some (.ref 20), some (.int (nI (min t 700)))] [] (pm_Rw w fk fp pl (nI q) tk va) = some (none, pm_Rw w fk fp (nI (min t 700)) (nI q) 0 va) := by
    intro q h1 h2
    simp only [z13_14, z13_15, z13_18, z13_19, pm_kv_some, pm_kw_some, pm_k_some, pm_k_void, pm_vc_some, pm_kl_some, pg2_0, pg2_1, pg2_2, pg2_3, pg2_4, pg2_5, pg2_6, rw20]
    rw [if_neg (nI_nlt (by omega) (by omega))]
    simp only [z13_69, z13_70, z13_73, z13_74, pm_kv_some, pm_kw_some, pm_k_some, pm_k_void, pm_vc_some, pm_kl_some, pg2_0, pg2_1, pg2_2, pg2_3, pg2_4, pg2_5, pg2_6, rw20]
    rw [if_neg (nI_nlt (by omega) (by omega))]
    simp only [z13_77, z13_78, z13_79, z13_82, z13_83, z13_84, z13_87, pm_kv_some, pm_kw_some, pm_k_some, pm_k_void, pm_vc_some, pm_kl_some, pp2_1, pp2_2, pp2_3, pp2_4, pp2_5, pp2_6, rw20, ru20]
  rcases h with h | h | h
  · obtain ⟨hk, hs, ht7, q, q1, q2, q3, q4, q5⟩ := h
    subst hk; subst hs
    by_cases hp7 : 700 ≤ p
    · refine ⟨nI p, va, ?_, fun z => by omega, fun z => by omega⟩
      rw [theend p (by omega) hp, show min t 700 = 700 by omega]; rfl
    · refine ⟨nI 700, va, ?_, fun z => by omega, fun z => by omega⟩
      rw [q_skip h10 h11 hB ht (show min t 700 ≤ t by omega) (700 - p) p (by omega) (fun j h1 h2 => q4 j h1 (by omega)), show p + (700 - p) = 700 by omega, theend 700 (by omega) (by omega), show min t 700 = 700 by omega]; rfl
  · obtain ⟨hk, hs, ht7, hpt, hj⟩ := h
    subst hk; subst hs
    refine ⟨nI s, va, ?_, fun z => by omega, fun z => by omega⟩
    rw [q_skip h10 h11 hB ht (show min s 700 ≤ s by omega) (s - p) p (by omega) (fun j h1 h2 => hj j h1 (by omega)), show p + (s - p) = s by omega, theend s (by omega) (by omega), show min s 700 = s by omega]; rfl
  · obtain ⟨hk5, hk0, hps, hst, hs7, hj, hnb, hc⟩ := h
    obtain ⟨b1, b2⟩ := hB s hst
    have hin := vp_in_nI (show s < 740 by omega) (by omega)
    rw [q_skip h10 h11 hB ht (show min t 700 ≤ t by omega) (s - p) p (by omega) (fun j h1 h2 => hj j h1 (by omega)), show p + (s - p) = s by omega, if_neg hk5]
    have st2 : pm_ev 13 14 [some (.ref 20), some (.int (nI (min t 700)))] [] (pm_Rw w fk fp pl (nI s) tk va) = if tz_b (c s) = 59 then some (none, pm_Rw w fk fp (nI s) (nI (s + 1)) 3 va) else pm_ev 13 129 [some (.ref 20), some (.int (nI (min t 700)))] [] (pm_Rw w fk fp (nI s) (nI s) tk va) := by
      conv => lhs; simp only [z13_14, z13_15, z13_18, z13_19, pm_kv_some, pm_kw_some, pm_k_some, pm_k_void, pm_vc_some, pm_kl_some, pg2_0, pg2_1, pg2_2, pg2_3, pg2_4, pg2_5, pg2_6, rw20]
      rw [if_pos (nI_lt (by omega) (by omega))]
      simp only [z13_22, z13_23, z13_26, z13_29, z13_30, z13_33, z13_34, z13_36, pm_kv_some, pm_kw_some, pm_k_some, pm_k_void, pm_vc_some, pm_kl_some, pg2_0, pg2_1, pg2_2, pg2_3, pg2_4, pg2_5, pg2_6, pg3_0, pg3_1, rw20, rw10, rw11, h10, h11, pm_ia_in hin, nI_clamp (show s < 2 ^ 31 by omega), b2]
      rw [if_neg (show ¬ tz_b (c s) = 32 from fun z => hnb (Or.inl ((tz_b_e (v := 32) b1 (by omega)).mp z)))]
      simp only [z13_39, z13_40, z13_43, z13_46, z13_47, z13_50, z13_51, z13_53, pm_kv_some, pm_kw_some, pm_k_some, pm_k_void, pm_vc_some, pm_kl_some, pg2_0, pg2_1, pg2_2, pg2_3, pg2_4, pg2_5, pg2_6, pg3_0, pg3_1, rw20, rw10, rw11, h10, h11, pm_ia_in hin, nI_clamp (show s < 2 ^ 31 by omega), b2]
      rw [if_neg (show ¬ tz_b (c s) = 10 from fun z => hnb (Or.inr ((tz_b_e (v := 10) b1 (by omega)).mp z)))]
      simp only [z13_69, z13_70, z13_73, z13_74, pm_kv_some, pm_kw_some, pm_k_some, pm_k_void, pm_vc_some, pm_kl_some, pg2_0, pg2_1, pg2_2, pg2_3, pg2_4, pg2_5, pg2_6, rw20]
      rw [if_pos (nI_lt (by omega) (by omega))]
      simp only [z13_88, z13_89, z13_90, z13_93, z13_96, z13_97, z13_100, z13_103, z13_104, z13_107, z13_108, z13_110, pm_kv_some, pm_kw_some, pm_k_some, pm_k_void, pm_vc_some, pm_kl_some, pg2_0, pg2_1, pg2_2, pg2_3, pg2_4, pg2_5, pg2_6, pg3_0, pg3_1, pp2_1, pp2_2, pp2_3, pp2_4, pp2_5, pp2_6, rw20, ru20, rw10, rw11, h10, h11, pm_ia_in hin, nI_clamp (show s < 2 ^ 31 by omega), b2]
      by_cases e : tz_b (c s) = 59
      · rw [if_pos e, if_pos e]
        simp only [z13_113, z13_114, z13_115, z13_118, z13_119, z13_120, z13_123, z13_124, z13_125, z13_128, pm_kv_some, pm_kw_some, pm_k_some, pm_k_void, pm_vc_some, pm_kl_some, pg2_0, pg2_1, pg2_2, pg2_3, pg2_4, pg2_5, pg2_6, pp2_1, pp2_2, pp2_3, pp2_4, pp2_5, pp2_6, rw20, ru20, nI_1]
      · rw [if_neg e, if_neg e]
    rw [st2]
    rcases hc with hc | hc
    · obtain ⟨hk, h59, hr⟩ := hc
      subst hk; subst hr
      refine ⟨nI (s + 1), va, ?_, fun _ => rfl, fun z => by omega⟩
      rw [if_pos (show tz_b (c s) = 59 from (tz_b_e (v := 59) b1 (by omega)).mpr h59)]; rfl
    · obtain ⟨hk3, h59, hsr, hrt, hld, hend, hk⟩ := hc
      refine ⟨nI r, tz_v c s (r - s), ?_, fun _ => rfl, fun _ => rfl⟩
      rw [if_neg (show ¬ tz_b (c s) = 59 from fun z => h59 ((tz_b_e (v := 59) b1 (by omega)).mp z))]
      simp only [z13_129, z13_130, z13_133, pm_kv_some, pm_kw_some, pm_k_some, pm_k_void, pm_vc_some, pm_kl_some, rw20, q_ld h10 h11 hB ht hsr hrt hld hend]
      rw [hk]
end PRD
