/-! LINES: the model's part -/
noncomputable def tz_qQ (c : Nat → Nat) (t r : Nat) : (Nat × Nat) ⊕ (Int32 × Int32 × Nat) := match tz_num c t 0 99999 r with
  | .inl f => .inl f
  | .inr (v, r3) => match tz_word c t 4 r3 with
    | .inl f => .inl f
    | .inr r4 => match tz_num c t 1 9999 r4 with
      | .inl f => .inl f
      | .inr (u, r5) => .inr (v, u, r5)
noncomputable def tz_quQ (c : Nat → Nat) (t p : Nat) : (Nat × Nat) ⊕ (Int32 × Int32 × Nat) := match tz_word c t 1 p with
  | .inl f => .inl f
  | .inr r1 => match tz_word c t 2 r1 with
    | .inr r2 => (match tz_qQ c t r2 with
      | .inl f => .inl f
      | .inr (v, u, r) => .inr (-v, u, r))
    | .inl _ => match tz_word c t 3 r1 with
      | .inl f => .inl f
      | .inr r2 => tz_qQ c t r2
/-- a semicolon behind it -/
def tz_then {α : Type} (c : Nat → Nat) (t : Nat) (x : (Nat × Nat) ⊕ (α × Nat)) : (Nat × Nat) ⊕ (α × Nat) := match x with
  | .inl f => .inl f
  | .inr (a, r) => match tz_semi c t r with
    | .inl f => .inl f
    | .inr r' => .inr (a, r')
def tz_r3 (x : (Nat × Nat) ⊕ (Int32 × Int32 × Nat)) : (Nat × Nat) ⊕ ((Int32 × Int32) × Nat) := match x with
  | .inl f => .inl f
  | .inr (v, u, r) => .inr ((v, u), r)
theorem tz_qP_Q {c : Nat → Nat} {t r : Nat} : tz_r3 (tz_qP c t r) = tz_then c t (tz_r3 (tz_qQ c t r)) := by
  unfold tz_qP tz_qQ
  cases tz_num c t 0 99999 r with
  | inl f => rfl
  | inr x =>
    obtain ⟨v, r3⟩ := x
    simp only []
    cases tz_word c t 4 r3 with
    | inl f => rfl
    | inr r4 =>
      simp only []
      cases tz_num c t 1 9999 r4 with
      | inl f => rfl
      | inr y =>
        obtain ⟨u, r5⟩ := y
        simp only [tz_r3, tz_then]
        cases tz_semi c t r5 with
        | inl f => rfl
        | inr r6 => rfl
theorem tz_quP_Q {c : Nat → Nat} {t p : Nat} : tz_r3 (tz_quP c t p) = tz_then c t (tz_r3 (tz_quQ c t p)) := by
  unfold tz_quP tz_quQ
  cases tz_word c t 1 p with
  | inl f => rfl
  | inr r1 =>
    simp only []
    cases tz_word c t 2 r1 with
    | inr r2 =>
      simp only []
      have := tz_qP_Q (c := c) (t := t) (r := r2)
      cases e1 : tz_qP c t r2 with
      | inl f =>
        cases e2 : tz_qQ c t r2 with
        | inl g => rw [e1, e2] at this; simp only [tz_r3, tz_then] at this ⊢; exact this
        | inr y =>
          obtain ⟨v, u, r⟩ := y
          rw [e1, e2] at this
          simp only [tz_r3, tz_then] at this ⊢
          cases e3 : tz_semi c t r with
          | inl g => rw [e3] at this; exact this
          | inr g => rw [e3] at this; cases this
      | inr x =>
        obtain ⟨v, u, r⟩ := x
        cases e2 : tz_qQ c t r2 with
        | inl g => rw [e1, e2] at this; simp only [tz_r3, tz_then] at this; cases this
        | inr y =>
          obtain ⟨v2, u2, r2'⟩ := y
          rw [e1, e2] at this
          simp only [tz_r3, tz_then] at this ⊢
          cases e3 : tz_semi c t r2' with
          | inl g => rw [e3] at this; cases this
          | inr g =>
            rw [e3] at this
            injection this with this
            injection this with h1 h2
            injection h1 with h3 h4
            subst h2; subst h3; subst h4; rfl
    | inl f =>
      simp only []
      cases tz_word c t 3 r1 with
      | inl f => rfl
      | inr r2 => exact tz_qP_Q
section PMP
variable {w : pm_H} {TT R RD SN : Nat → Int32} {wt er : Nat → Int64} {rk : Nat → Int32} {s0 s2 s3 s4 s5 s6 s7 s8 s9 s14 s18 s19 s20 : Int32} {l10 l21 l22 : Int64} {c : Nat → Nat} {t p j : Nat}
theorem m_bad {k : Int32} : pm_call 102 [.ref 200, .int k] (pm_Mw w (ab_S s0 s2 s3 s4 s5 s6 s7 s8 s9 s14 s18 s19 s20) (ab_Lg l10 l21 l22) TT R RD SN wt er rk) = some (some (.int 0), (pm_Mw w (ab_S s0 s2 s3 s4 s5 s6 s7 (if s6 = 1 then 1 else k) s5 s14 s18 s19 s20) (ab_Lg l10 l21 l22) TT R RD SN wt er rk)) := by
  simp only [pe102, z102_0, z102_1, z102_2, z102_5, z102_6, pm_kv_some, pm_kw_some, pm_k_some, pm_k_void, pm_vc_some, pm_kl_some, pg6_0, pg6_1, pg6_2, pg6_3, pg6_4, pg6_5, pg6_6, pg6_7, pg6_8, pg6_9, pg6_10, pg6_11, pg6_12, pg6_13, pg6_14, pg6_15, pg6_16, pg6_17, pg6_18, pg6_19, pg6_20, pg6_21, pg6_22, mw200, aS0, aS2, aS3, aS4, aS5, aS6, aS7, aS8, aS9, aS14, aS18, aS19, aS20, aL10, aL21, aL22]
  by_cases e : s6 = 1
  · rw [if_pos e, if_pos e]
    simp only [z102_9, z102_10, z102_14, z102_17, z102_18, z102_19, z102_22, z102_25, z102_26, pm_kv_some, pm_kw_some, pm_k_some, pm_k_void, pm_vc_some, pm_kl_some, pg6_0, pg6_1, pg6_2, pg6_3, pg6_4, pg6_5, pg6_6, pg6_7, pg6_8, pg6_9, pg6_10, pg6_11, pg6_12, pg6_13, pg6_14, pg6_15, pg6_16, pg6_17, pg6_18, pg6_19, pg6_20, pg6_21, pg6_22, pp6_0, pp6_2, pp6_3, pp6_4, pp6_5, pp6_6, pp6_7, pp6_8, pp6_9, pp6_10, pp6_14, pp6_18, pp6_19, pp6_20, pp6_21, pp6_22, mw200, aS0, aS2, aS3, aS4, aS5, aS6, aS7, aS8, aS9, aS14, aS18, aS19, aS20, aL10, aL21, aL22, mu200, pm_zr0]
  · rw [if_neg e, if_neg e]
    simp only [z102_13, z102_14, z102_17, z102_18, z102_19, z102_22, z102_25, z102_26, pm_kv_some, pm_kw_some, pm_k_some, pm_k_void, pm_vc_some, pm_kl_some, pg6_0, pg6_1, pg6_2, pg6_3, pg6_4, pg6_5, pg6_6, pg6_7, pg6_8, pg6_9, pg6_10, pg6_11, pg6_12, pg6_13, pg6_14, pg6_15, pg6_16, pg6_17, pg6_18, pg6_19, pg6_20, pg6_21, pg6_22, pp6_0, pp6_2, pp6_3, pp6_4, pp6_5, pp6_6, pp6_7, pp6_8, pp6_9, pp6_10, pp6_14, pp6_18, pp6_19, pp6_20, pp6_21, pp6_22, mw200, aS0, aS2, aS3, aS4, aS5, aS6, aS7, aS8, aS9, aS14, aS18, aS19, aS20, aL10, aL21, aL22, mu200, pm_zr0]
theorem tz_mk_b {k : Nat} : tz_mk k ≤ 4 := by
  unfold tz_mk; split <;> (try split) <;> (try split) <;> (try split) <;> omega
theorem tz_mk_e {k v : Nat} (hv : v ≤ 4) : nI (tz_mk k) = nI v ↔ tz_mk k = v := nI_eq (by have := tz_mk_b (k := k); omega) (by omega)
theorem m_told (hT : tz_T TT c t) (ht : t ≤ 740) (hp : p ≤ t) (hc : tz_cur c t p s4 s5 s6 s7 l10) {a : Nat} (ha : a < 103) {lo hi : Int32} :
    (∃ k s, tz_num c t lo hi p = .inl (k, s) ∧ pm_call 103 [.ref 200, .int (nI a), .int lo, .int hi] (pm_Mw w (ab_S s0 s2 (nI t) s4 s5 s6 s7 s8 s9 s14 s18 s19 s20) (ab_Lg l10 l21 l22) TT R RD SN wt er rk) = some (some (.int 0), (pm_Mw w (ab_S s0 s2 (nI t) s4 s5 s6 s7 (nI k) (nI s) s14 s18 s19 s20) (ab_Lg l10 l21 l22) TT R RD SN wt er rk))) ∨
    (∃ v r, tz_num c t lo hi p = .inr (v, r) ∧ r ≤ t ∧ ¬ v < lo ∧ ¬ hi < v ∧ ∃ (s4' s5' s6' s7' : Int32) (l10' : Int64), pm_call 103 [.ref 200, .int (nI a), .int lo, .int hi] (pm_Mw w (ab_S s0 s2 (nI t) s4 s5 s6 s7 s8 s9 s14 s18 s19 s20) (ab_Lg l10 l21 l22) TT R RD SN wt er rk) = some (some (.int 1), (pm_Mw w (ab_S s0 s2 (nI t) s4' s5' s6' s7' s8 s9 s14 s18 s19 s20) (ab_Lg l10' l21 l22) TT R (upd RD a v) SN wt er rk)) ∧ tz_cur c t r s4' s5' s6' s7' l10') := by
  have hle := fun v r h => tz_num_le (c := c) (lo := lo) (hi := hi) (v := v) (r := r) hp h
  have hc0 := hc
  unfold tz_cur at hc
  unfold tz_num at hle ⊢
  generalize (tz_t c t p).1 = k0 at *
  generalize (tz_t c t p).2.1 = st at *
  generalize (tz_t c t p).2.2 = r0 at *
  obtain ⟨c1, c2, c3, c4, c5⟩ := hc
  by_cases e : k0 = 2
  · have e6 : s6 = 3 := by rw [c2, e]; rfl
    have e7 := c4 e
    have e4 := c3 (Or.inr (Or.inl e))
    rw [if_pos e, ← e7]
    rw [if_pos e, ← e7] at hle
    by_cases e8 : s7 < lo ∨ hi < s7
    · left
      refine ⟨2, st, by rw [if_pos e8], ?_⟩
      simp only [pe103, z103_0, z103_1, z103_4, z103_5, pm_kv_some, pm_kw_some, pm_k_some, pm_k_void, pm_vc_some, pm_kl_some, pg6_0, pg6_1, pg6_2, pg6_3, pg6_4, pg6_5, pg6_6, pg6_7, pg6_8, pg6_9, pg6_10, pg6_11, pg6_12, pg6_13, pg6_14, pg6_15, pg6_16, pg6_17, pg6_18, pg6_19, pg6_20, pg6_21, pg6_22, mw200, aS0, aS2, aS3, aS4, aS5, aS6, aS7, aS8, aS9, aS14, aS18, aS19, aS20, aL10, aL21, aL22]
      rw [if_pos e6]
      simp only [z103_14, z103_15, z103_18, z103_19, z103_20, z103_23, pm_kv_some, pm_kw_some, pm_k_some, pm_k_void, pm_vc_some, pm_kl_some, pg6_0, pg6_1, pg6_2, pg6_3, pg6_4, pg6_5, pg6_6, pg6_7, pg6_8, pg6_9, pg6_10, pg6_11, pg6_12, pg6_13, pg6_14, pg6_15, pg6_16, pg6_17, pg6_18, pg6_19, pg6_20, pg6_21, pg6_22, mw200, aS0, aS2, aS3, aS4, aS5, aS6, aS7, aS8, aS9, aS14, aS18, aS19, aS20, aL10, aL21, aL22, q_isIn]
      have : (if s7 < lo then (0 : Int32) else if hi < s7 then 0 else 1) = 0 := by
        rcases e8 with h | h
        · rw [if_pos h]
        · split
          · rfl
          · rfl
      rw [if_pos this]
      simp only [z103_26, z103_27, z103_28, z103_31, pm_kv_some, pm_kw_some, pm_k_some, pm_k_void, pm_vc_some, pm_kl_some, mw200, m_bad, pm_zr0]
      rw [if_neg (by rw [e6]; decide), c1]; rfl
    · right
      rw [if_neg e8] at hle
      have hr := hle s7 r0 rfl
      obtain ⟨s4', s5', s6', s7', l10', h1, h2⟩ := m_go (w := w) (TT := TT) (R := R) (RD := upd RD a s7) (SN := SN) (wt := wt) (er := er) (rk := rk) (s0 := s0) (s2 := s2) (s5 := s5) (s6 := s6) (s7 := s7) (s8 := s8) (s9 := s9) (s14 := s14) (s18 := s18) (s19 := s19) (s20 := s20) (l10 := l10) (l21 := l21) (l22 := l22) hT ht hr.1
      rw [← e4] at h1
      refine ⟨s7, r0, by rw [if_neg e8], hr.1, hr.2.1, hr.2.2, s4', s5', s6', s7', l10', ?_, h2⟩
      simp only [pe103, z103_0, z103_1, z103_4, z103_5, pm_kv_some, pm_kw_some, pm_k_some, pm_k_void, pm_vc_some, pm_kl_some, pg6_0, pg6_1, pg6_2, pg6_3, pg6_4, pg6_5, pg6_6, pg6_7, pg6_8, pg6_9, pg6_10, pg6_11, pg6_12, pg6_13, pg6_14, pg6_15, pg6_16, pg6_17, pg6_18, pg6_19, pg6_20, pg6_21, pg6_22, mw200, aS0, aS2, aS3, aS4, aS5, aS6, aS7, aS8, aS9, aS14, aS18, aS19, aS20, aL10, aL21, aL22]
      rw [if_pos e6]
      simp only [z103_14, z103_15, z103_18, z103_19, z103_20, z103_23, pm_kv_some, pm_kw_some, pm_k_some, pm_k_void, pm_vc_some, pm_kl_some, pg6_0, pg6_1, pg6_2, pg6_3, pg6_4, pg6_5, pg6_6, pg6_7, pg6_8, pg6_9, pg6_10, pg6_11, pg6_12, pg6_13, pg6_14, pg6_15, pg6_16, pg6_17, pg6_18, pg6_19, pg6_20, pg6_21, pg6_22, mw200, aS0, aS2, aS3, aS4, aS5, aS6, aS7, aS8, aS9, aS14, aS18, aS19, aS20, aL10, aL21, aL22, q_isIn]
      rw [if_neg (fun z => e8 (Or.inl z)), if_neg (fun z => e8 (Or.inr z)), if_neg (by decide)]
      simp only [z103_32, z103_33, z103_36, z103_37, z103_38, z103_41, z103_42, z103_43, z103_46, z103_47, pm_kv_some, pm_kw_some, pm_k_some, pm_k_void, pm_vc_some, pm_kl_some, pg6_0, pg6_1, pg6_2, pg6_3, pg6_4, pg6_5, pg6_6, pg6_7, pg6_8, pg6_9, pg6_10, pg6_11, pg6_12, pg6_13, pg6_14, pg6_15, pg6_16, pg6_17, pg6_18, pg6_19, pg6_20, pg6_21, pg6_22, mw200, mw213, aS0, aS2, aS3, aS4, aS5, aS6, aS7, aS8, aS9, aS14, aS18, aS19, aS20, aL10, aL21, aL22, pm_is_in (vp_in_nI ha (show 103 < 2 ^ 31 by omega)), nI_clamp (show a < 2 ^ 31 by omega), mu213, h1, pm_zr1]
  · left
    rw [if_neg e]
    refine ⟨1, st, rfl, ?_⟩
    have e6 : ¬ s6 = 3 := by
      rw [c2]; intro z
      have := (tz_mk_e (v := 3) (by omega)).mp z
      unfold tz_mk at this
      split at this <;> (try split at this) <;> (try split at this) <;> (try split at this) <;> omega
    simp only [pe103, z103_0, z103_1, z103_4, z103_5, pm_kv_some, pm_kw_some, pm_k_some, pm_k_void, pm_vc_some, pm_kl_some, pg6_0, pg6_1, pg6_2, pg6_3, pg6_4, pg6_5, pg6_6, pg6_7, pg6_8, pg6_9, pg6_10, pg6_11, pg6_12, pg6_13, pg6_14, pg6_15, pg6_16, pg6_17, pg6_18, pg6_19, pg6_20, pg6_21, pg6_22, mw200, aS0, aS2, aS3, aS4, aS5, aS6, aS7, aS8, aS9, aS14, aS18, aS19, aS20, aL10, aL21, aL22]
    rw [if_neg e6]
    simp only [z103_8, z103_9, z103_10, z103_13, pm_kv_some, pm_kw_some, pm_k_some, pm_k_void, pm_vc_some, pm_kl_some, mw200, m_bad, pm_zr0]
    rw [ite_self, c1]; rfl
theorem m_readEnd (hT : tz_T TT c t) (ht : t ≤ 740) (hp : p ≤ t) (hc : tz_cur c t p s4 s5 s6 s7 l10) :
    (∃ k s, tz_semi c t p = .inl (k, s) ∧ pm_call 117 [.ref 200] (pm_Mw w (ab_S s0 s2 (nI t) s4 s5 s6 s7 s8 s9 s14 s18 s19 s20) (ab_Lg l10 l21 l22) TT R RD SN wt er rk) = some (some (.int 0), (pm_Mw w (ab_S s0 s2 (nI t) s4 s5 s6 s7 (nI k) (nI s) s14 s18 s19 s20) (ab_Lg l10 l21 l22) TT R RD SN wt er rk))) ∨
    (∃ r, tz_semi c t p = .inr r ∧ r ≤ t ∧ ∃ (s4' s5' s6' s7' : Int32) (l10' : Int64), pm_call 117 [.ref 200] (pm_Mw w (ab_S s0 s2 (nI t) s4 s5 s6 s7 s8 s9 s14 s18 s19 s20) (ab_Lg l10 l21 l22) TT R RD SN wt er rk) = some (some (.int 1), (pm_Mw w (ab_S s0 s2 (nI t) s4' s5' s6' s7' s8 s9 s14 s18 s19 s20) (ab_Lg l10' l21 l22) TT R RD SN wt er rk)) ∧ tz_cur c t r s4' s5' s6' s7' l10') := by
  have hle := fun r h => tz_semi_le (c := c) (r := r) hp h
  unfold tz_cur at hc
  unfold tz_semi at hle ⊢
  generalize (tz_t c t p).1 = k0 at *
  generalize (tz_t c t p).2.1 = st at *
  generalize (tz_t c t p).2.2 = r0 at *
  obtain ⟨c1, c2, c3, c4, c5⟩ := hc
  by_cases e : k0 = 3
  · right
    have e6 : s6 = 4 := by rw [c2, e]; rfl
    have e4 := c3 (Or.inr (Or.inr e))
    rw [if_pos e] at hle ⊢
    have hr := hle r0 rfl
    obtain ⟨s4', s5', s6', s7', l10', h1, h2⟩ := m_go (w := w) (TT := TT) (R := R) (RD := RD) (SN := SN) (wt := wt) (er := er) (rk := rk) (s0 := s0) (s2 := s2) (s5 := s5) (s6 := s6) (s7 := s7) (s8 := s8) (s9 := s9) (s14 := s14) (s18 := s18) (s19 := s19) (s20 := s20) (l10 := l10) (l21 := l21) (l22 := l22) hT ht hr
    rw [← e4] at h1
    refine ⟨r0, rfl, hr, s4', s5', s6', s7', l10', ?_, h2⟩
    simp only [pe117, z117_0, z117_1, z117_4, z117_5, pm_kv_some, pm_kw_some, pm_k_some, pm_k_void, pm_vc_some, pm_kl_some, pg6_0, pg6_1, pg6_2, pg6_3, pg6_4, pg6_5, pg6_6, pg6_7, pg6_8, pg6_9, pg6_10, pg6_11, pg6_12, pg6_13, pg6_14, pg6_15, pg6_16, pg6_17, pg6_18, pg6_19, pg6_20, pg6_21, pg6_22, mw200, aS0, aS2, aS3, aS4, aS5, aS6, aS7, aS8, aS9, aS14, aS18, aS19, aS20, aL10, aL21, aL22]
    rw [if_pos e6]
    simp only [z117_14, z117_15, z117_18, z117_19, pm_kv_some, pm_kw_some, pm_k_some, pm_k_void, pm_vc_some, pm_kl_some, mw200, h1, pm_zr1]
  · left
    rw [if_neg e]
    refine ⟨1, st, rfl, ?_⟩
    have e6 : ¬ s6 = 4 := by
      rw [c2]; intro z
      have := (tz_mk_e (v := 4) (by omega)).mp z
      unfold tz_mk at this
      split at this <;> (try split at this) <;> (try split at this) <;> (try split at this) <;> omega
    simp only [pe117, z117_0, z117_1, z117_4, z117_5, pm_kv_some, pm_kw_some, pm_k_some, pm_k_void, pm_vc_some, pm_kl_some, pg6_0, pg6_1, pg6_2, pg6_3, pg6_4, pg6_5, pg6_6, pg6_7, pg6_8, pg6_9, pg6_10, pg6_11, pg6_12, pg6_13, pg6_14, pg6_15, pg6_16, pg6_17, pg6_18, pg6_19, pg6_20, pg6_21, pg6_22, mw200, aS0, aS2, aS3, aS4, aS5, aS6, aS7, aS8, aS9, aS14, aS18, aS19, aS20, aL10, aL21, aL22]
    rw [if_neg e6]
    simp only [z117_8, z117_9, z117_10, z117_13, pm_kv_some, pm_kw_some, pm_k_some, pm_k_void, pm_vc_some, pm_kl_some, mw200, m_bad, pm_zr0]
    rw [ite_self, c1]; rfl
/-- behind a word -/
theorem m_goW (hT : tz_T TT c t) (ht : t ≤ 740) (hp : p ≤ t) (hc : tz_cur c t p s4 s5 s6 s7 l10) {r : Nat} (h : tz_word c t j p = .inr r) : ∃ (s4' s5' s6' s7' : Int32) (l10' : Int64), pm_call 92 [.ref 200] (pm_Mw w (ab_S s0 s2 (nI t) s4 s5 s6 s7 s8 s9 s14 s18 s19 s20) (ab_Lg l10 l21 l22) TT R RD SN wt er rk) = some (none, (pm_Mw w (ab_S s0 s2 (nI t) s4' s5' s6' s7' s8 s9 s14 s18 s19 s20) (ab_Lg l10' l21 l22) TT R RD SN wt er rk)) ∧ tz_cur c t r s4' s5' s6' s7' l10' := by
  obtain ⟨i1, i2⟩ := tz_word_t h
  have hr := tz_word_le hp h
  have e4 := hc.2.2.1 (Or.inl i1.1)
  rw [← i2] at e4
  rw [e4]
  exact m_go hT ht hr
theorem tz_isw_2 {i : Nat} (h1 : tz_isw c t p i) (h2 : tz_isw c t p j) : tz_ln i = tz_ln j := by
  have a := h1.2.1
  have b := h2.2.1
  omega
theorem m_isProfit (hp : p ≤ t) (hc : tz_cur c t p s4 s5 s6 s7 l10) : (tz_isw c t p 3 → pm_call 105 [.ref 200] (pm_Mw w (ab_S s0 s2 s3 s4 s5 s6 s7 s8 s9 s14 s18 s19 s20) (ab_Lg l10 l21 l22) TT R RD SN wt er rk) = some (some (.int 1), (pm_Mw w (ab_S s0 s2 s3 s4 s5 s6 s7 s8 s9 s14 s18 s19 s20) (ab_Lg l10 l21 l22) TT R RD SN wt er rk))) ∧ (¬ tz_isw c t p 3 → pm_call 105 [.ref 200] (pm_Mw w (ab_S s0 s2 s3 s4 s5 s6 s7 s8 s9 s14 s18 s19 s20) (ab_Lg l10 l21 l22) TT R RD SN wt er rk) = some (some (.int 0), (pm_Mw w (ab_S s0 s2 s3 s4 s5 s6 s7 s8 s9 s14 s18 s19 s20) (ab_Lg l10 l21 l22) TT R RD SN wt er rk))) := by
  obtain ⟨g1, g2⟩ := m_isWord (w := w) (TT := TT) (R := R) (RD := RD) (SN := SN) (wt := wt) (er := er) (rk := rk) (s0 := s0) (s2 := s2) (s3 := s3) (s8 := s8) (s9 := s9) (s14 := s14) (s18 := s18) (s19 := s19) (s20 := s20) (l21 := l21) (l22 := l22) (j := 3) hp (by omega) hc
  refine ⟨fun h => ?_, fun h => ?_⟩
  · simp only [pe105, z105_0, z105_1, z105_3, z105_5, z105_7, z105_9, z105_11, z105_13, z105_16, z105_19, pm_kv_some, pm_kw_some, pm_k_some, pm_k_void, pm_vc_some, pm_kl_some, mw200, q_profit, g1 h, pm_zr1]
  · simp only [pe105, z105_0, z105_1, z105_3, z105_5, z105_7, z105_9, z105_11, z105_13, z105_16, z105_19, pm_kv_some, pm_kw_some, pm_k_some, pm_k_void, pm_vc_some, pm_kl_some, mw200, q_profit, g2 h, pm_zr0]
theorem m_isPrice (hp : p ≤ t) (hc : tz_cur c t p s4 s5 s6 s7 l10) : (tz_isw c t p 4 → pm_call 107 [.ref 200] (pm_Mw w (ab_S s0 s2 s3 s4 s5 s6 s7 s8 s9 s14 s18 s19 s20) (ab_Lg l10 l21 l22) TT R RD SN wt er rk) = some (some (.int 1), (pm_Mw w (ab_S s0 s2 s3 s4 s5 s6 s7 s8 s9 s14 s18 s19 s20) (ab_Lg l10 l21 l22) TT R RD SN wt er rk))) ∧ (¬ tz_isw c t p 4 → pm_call 107 [.ref 200] (pm_Mw w (ab_S s0 s2 s3 s4 s5 s6 s7 s8 s9 s14 s18 s19 s20) (ab_Lg l10 l21 l22) TT R RD SN wt er rk) = some (some (.int 0), (pm_Mw w (ab_S s0 s2 s3 s4 s5 s6 s7 s8 s9 s14 s18 s19 s20) (ab_Lg l10 l21 l22) TT R RD SN wt er rk))) := by
  obtain ⟨g1, g2⟩ := m_isWord (w := w) (TT := TT) (R := R) (RD := RD) (SN := SN) (wt := wt) (er := er) (rk := rk) (s0 := s0) (s2 := s2) (s3 := s3) (s8 := s8) (s9 := s9) (s14 := s14) (s18 := s18) (s19 := s19) (s20 := s20) (l21 := l21) (l22 := l22) (j := 4) hp (by omega) hc
  refine ⟨fun h => ?_, fun h => ?_⟩
  · simp only [pe107, z107_0, z107_1, z107_3, z107_5, z107_7, z107_9, z107_11, z107_14, z107_17, pm_kv_some, pm_kw_some, pm_k_some, pm_k_void, pm_vc_some, pm_kl_some, mw200, q_price, g1 h, pm_zr1]
  · simp only [pe107, z107_0, z107_1, z107_3, z107_5, z107_7, z107_9, z107_11, z107_14, z107_17, pm_kv_some, pm_kw_some, pm_k_some, pm_k_void, pm_vc_some, pm_kl_some, mw200, q_price, g2 h, pm_zr0]
/-- bad(1), of a token at p -/
theorem m_bad1 (hc : tz_cur c t p s4 s5 s6 s7 l10) : pm_call 102 [.ref 200, .int 1] (pm_Mw w (ab_S s0 s2 s3 s4 s5 s6 s7 s8 s9 s14 s18 s19 s20) (ab_Lg l10 l21 l22) TT R RD SN wt er rk) = some (some (.int 0), (pm_Mw w (ab_S s0 s2 s3 s4 s5 s6 s7 1 (nI (tz_t c t p).2.1) s14 s18 s19 s20) (ab_Lg l10 l21 l22) TT R RD SN wt er rk)) := by
  rw [m_bad, ite_self, hc.1]
theorem m_readShares (hT : tz_T TT c t) (ht : t ≤ 740) (hp : p ≤ t) (hc : tz_cur c t p s4 s5 s6 s7 l10) :
    (∃ k s, (tz_word c t 0 p = .inl (k, s) ∨ ∃ r, tz_word c t 0 p = .inr r ∧ tz_num c t 1 99999 r = .inl (k, s)) ∧ ∃ (s4' s5' s6' s7' : Int32) (l10' : Int64), pm_call 98 [.ref 200] (pm_Mw w (ab_S s0 s2 (nI t) s4 s5 s6 s7 s8 s9 s14 s18 s19 s20) (ab_Lg l10 l21 l22) TT R RD SN wt er rk) = some (some (.int 0), (pm_Mw w (ab_S s0 s2 (nI t) s4' s5' s6' s7' (nI k) (nI s) s14 s18 s19 s20) (ab_Lg l10' l21 l22) TT R RD SN wt er rk))) ∨
    (∃ r v r2, tz_word c t 0 p = .inr r ∧ tz_num c t 1 99999 r = .inr (v, r2) ∧ r2 ≤ t ∧ ¬ v < 1 ∧ ¬ 99999 < v ∧ ∃ (s4' s5' s6' s7' : Int32) (l10' : Int64), pm_call 98 [.ref 200] (pm_Mw w (ab_S s0 s2 (nI t) s4 s5 s6 s7 s8 s9 s14 s18 s19 s20) (ab_Lg l10 l21 l22) TT R RD SN wt er rk) = some (some (.int 1), (pm_Mw w (ab_S s0 s2 (nI t) s4' s5' s6' s7' s8 s9 s14 s18 s19 s20) (ab_Lg l10' l21 l22) TT R (upd RD 0 v) SN wt er rk)) ∧ tz_cur c t r2 s4' s5' s6' s7' l10') := by
  obtain ⟨g1, g2⟩ := m_isWord (w := w) (TT := TT) (R := R) (RD := RD) (SN := SN) (wt := wt) (er := er) (rk := rk) (s0 := s0) (s2 := s2) (s3 := nI t) (s8 := s8) (s9 := s9) (s14 := s14) (s18 := s18) (s19 := s19) (s20 := s20) (l21 := l21) (l22 := l22) (j := 0) hp (by omega) hc
  cases e : tz_word c t 0 p with
  | inl f =>
    left
    obtain ⟨k, s⟩ := f
    obtain ⟨i1, i2, i3⟩ := tz_word_f e
    refine ⟨k, s, Or.inl rfl, s4, s5, s6, s7, l10, ?_⟩
    simp only [pe98, z98_0, z98_1, z98_3, z98_5, z98_7, z98_9, z98_11, z98_13, z98_16, z98_19, pm_kv_some, pm_kw_some, pm_k_some, pm_k_void, pm_vc_some, pm_kl_some, mw200, q_shares, g2 i1]
    rw [if_pos trivial]
    simp only [z98_22, z98_23, z98_24, z98_27, pm_kv_some, pm_kw_some, pm_k_some, pm_k_void, pm_vc_some, pm_kl_some, mw200, m_bad1 hc, pm_zr0]
    rw [i2, i3]; rfl
  | inr r =>
    have hr := tz_word_le hp e
    obtain ⟨a4, a5, a6, a7, a10, h1, h2⟩ := m_goW (w := w) (TT := TT) (R := R) (RD := RD) (SN := SN) (wt := wt) (er := er) (rk := rk) (s0 := s0) (s2 := s2) (s8 := s8) (s9 := s9) (s14 := s14) (s18 := s18) (s19 := s19) (s20 := s20) (l21 := l21) (l22 := l22) hT ht hp hc e
    have st : pm_call 98 [.ref 200] (pm_Mw w (ab_S s0 s2 (nI t) s4 s5 s6 s7 s8 s9 s14 s18 s19 s20) (ab_Lg l10 l21 l22) TT R RD SN wt er rk) = pm_ev 98 32 [some (.ref 200)] [] (pm_Mw w (ab_S s0 s2 (nI t) a4 a5 a6 a7 s8 s9 s14 s18 s19 s20) (ab_Lg a10 l21 l22) TT R RD SN wt er rk) := by
      simp only [pe98, z98_0, z98_1, z98_3, z98_5, z98_7, z98_9, z98_11, z98_13, z98_16, z98_19, pm_kv_some, pm_kw_some, pm_k_some, pm_k_void, pm_vc_some, pm_kl_some, mw200, q_shares, g1 (tz_word_t e).1]
      rw [if_neg (by decide)]
      simp only [z98_28, z98_29, pm_kv_some, pm_kw_some, pm_k_some, pm_k_void, pm_vc_some, pm_kl_some, mw200, h1]
    rw [st]
    rcases m_told (w := w) (TT := TT) (R := R) (RD := RD) (SN := SN) (wt := wt) (er := er) (rk := rk) (s0 := s0) (s2 := s2) (s8 := s8) (s9 := s9) (s14 := s14) (s18 := s18) (s19 := s19) (s20 := s20) (l21 := l21) (l22 := l22) (a := 0) (lo := 1) (hi := 99999) hT ht hr h2 (by omega) with ⟨k, s, e2, h3⟩ | ⟨v, r2, e2, hr2, v1, v2, b4, b5, b6, b7, b10, h3, h4⟩
    · left
      refine ⟨k, s, Or.inr ⟨r, rfl, e2⟩, a4, a5, a6, a7, a10, ?_⟩
      rw [nI_0] at h3
      simp only [z98_32, z98_33, z98_34, z98_35, z98_37, z98_40, pm_kv_some, pm_kw_some, pm_k_some, pm_k_void, pm_vc_some, pm_kl_some, mw200, h3, pm_zr0]
    · right
      refine ⟨r, v, r2, rfl, e2, hr2, v1, v2, b4, b5, b6, b7, b10, ?_, h4⟩
      rw [nI_0] at h3
      simp only [z98_32, z98_33, z98_34, z98_35, z98_37, z98_40, pm_kv_some, pm_kw_some, pm_k_some, pm_k_void, pm_vc_some, pm_kl_some, mw200, h3, pm_zr1]
end PMP
