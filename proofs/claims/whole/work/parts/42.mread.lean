/-! THE MODEL'S TOKENS -/
def tz_mk (k : Nat) : Nat := if k = 0 then 0 else if k = 1 then 2 else if k = 2 then 3 else if k = 3 then 4 else 1
def tz_cur (c : Nat → Nat) (t p : Nat) (to fr so nu : Int32) (wo : Int64) : Prop :=
  fr = nI (tz_t c t p).2.1 ∧ so = nI (tz_mk (tz_t c t p).1) ∧ ((tz_t c t p).1 = 1 ∨ (tz_t c t p).1 = 2 ∨ (tz_t c t p).1 = 3 → to = nI (tz_t c t p).2.2) ∧ ((tz_t c t p).1 = 2 → nu = tz_v c (tz_t c t p).2.1 ((tz_t c t p).2.2 - (tz_t c t p).2.1)) ∧ ((tz_t c t p).1 = 1 → wo = tz_w c (tz_t c t p).2.1 ((tz_t c t p).2.2 - (tz_t c t p).2.1))
theorem q_isLetter {w : pm_H} {x : Nat} (hx : x < 2 ^ 31) : pm_call 93 [.int (nI x)] w = some (some (.int (if 97 ≤ x ∧ x ≤ 122 then 1 else 0)), w) := by
  simp only [pe93, z93_0, z93_1, z93_3]
  by_cases e1 : 97 ≤ x
  · rw [if_neg (show ¬ nI x < 97 from nI_nlt (b := 97) e1 hx)]
    simp only [z93_6, z93_7, z93_9]
    by_cases e2 : x ≤ 122
    · rw [if_neg (show ¬ 122 < nI x from nI_nlt (a := 122) e2 (by omega)), if_pos ⟨e1, e2⟩]
      simp only [z93_12, z93_13, z93_16, z93_17, pm_zr1]
    · rw [if_pos (show 122 < nI x from nI_lt (a := 122) (by omega) hx), if_neg (fun z => e2 z.2)]
      simp only [z93_16, z93_17, pm_zr0]
  · rw [if_pos (show nI x < 97 from nI_lt (b := 97) (by omega) (by omega)), if_neg (fun z => e1 z.1)]
    simp only [z93_16, z93_17, pm_zr0]
theorem q_isDigit {w : pm_H} {x : Nat} (hx : x < 2 ^ 31) : pm_call 94 [.int (nI x)] w = some (some (.int (if 48 ≤ x ∧ x ≤ 57 then 1 else 0)), w) := by
  simp only [pe94, z94_0, z94_1, z94_3]
  by_cases e1 : 48 ≤ x
  · rw [if_neg (show ¬ nI x < 48 from nI_nlt (b := 48) e1 hx)]
    simp only [z94_6, z94_7, z94_9]
    by_cases e2 : x ≤ 57
    · rw [if_neg (show ¬ 57 < nI x from nI_nlt (a := 57) e2 (by omega)), if_pos ⟨e1, e2⟩]
      simp only [z94_12, z94_13, z94_16, z94_17, pm_zr1]
    · rw [if_pos (show 57 < nI x from nI_lt (a := 57) (by omega) hx), if_neg (fun z => e2 z.2)]
      simp only [z94_16, z94_17, pm_zr0]
  · rw [if_pos (show nI x < 48 from nI_lt (b := 48) (by omega) (by omega)), if_neg (fun z => e1 z.1)]
    simp only [z94_16, z94_17, pm_zr0]
def tz_T (TT : Nat → Int32) (c : Nat → Nat) (t : Nat) : Prop := ∀ j, j < t → c j < 256 ∧ TT j = nI (c j)
section PMT8
variable {w : pm_H} {TT R RD SN : Nat → Int32} {wt er : Nat → Int64} {rk : Nat → Int32} {s0 s2 s3 s4 s5 s6 s7 s8 s9 s14 s18 s19 s20 : Int32} {l10 l21 l22 : Int64} {c : Nat → Nat} {t : Nat}
theorem m_tapeAt (hT : tz_T TT c t) (ht : t ≤ 740) {p : Nat} (hp : p ≤ t) : pm_call 95 [.ref 200, .int (nI p)] (pm_Mw w (ab_S s0 s2 (nI t) s4 s5 s6 s7 s8 s9 s14 s18 s19 s20) (ab_Lg l10 l21 l22) TT R RD SN wt er rk) = some (some (.int (nI (if p < t then c p else 0))), (pm_Mw w (ab_S s0 s2 (nI t) s4 s5 s6 s7 s8 s9 s14 s18 s19 s20) (ab_Lg l10 l21 l22) TT R RD SN wt er rk)) := by
  simp only [pe95, z95_0, z95_1, z95_2, z95_5, pm_kv_some, pm_kw_some, pm_k_some, pm_k_void, pm_vc_some, pm_kl_some, pg6_0, pg6_1, pg6_2, pg6_3, pg6_4, pg6_5, pg6_6, pg6_7, pg6_8, pg6_9, pg6_10, pg6_11, pg6_12, pg6_13, pg6_14, pg6_15, pg6_16, pg6_17, pg6_18, pg6_19, pg6_20, pg6_21, pg6_22, mw200, aS0, aS2, aS3, aS4, aS5, aS6, aS7, aS8, aS9, aS14, aS18, aS19, aS20, aL10, aL21, aL22]
  by_cases e : p < t
  · rw [if_pos (nI_lt e (by omega)), if_pos e]
    simp only [z95_8, z95_9, z95_12, z95_13, z95_14, z95_18, pm_kv_some, pm_kw_some, pm_k_some, pm_k_void, pm_vc_some, pm_kl_some, pg6_0, pg6_1, pg6_2, pg6_3, pg6_4, pg6_5, pg6_6, pg6_7, pg6_8, pg6_9, pg6_10, pg6_11, pg6_12, pg6_13, pg6_14, pg6_15, pg6_16, pg6_17, pg6_18, pg6_19, pg6_20, pg6_21, pg6_22, mw200, mw202, pm_ia_in (vp_in_nI (show p < 740 by omega) (by omega)), nI_clamp (show p < 2 ^ 31 by omega), (hT p e).2]
  · rw [if_neg (nI_nlt (by omega) (by omega)), if_neg e]
    simp only [z95_17, z95_18]
    rfl
theorem m_skip (hT : tz_T TT c t) (ht : t ≤ 740) : ∀ (m p : Nat), p + m ≤ t → (∀ j, p ≤ j → j < p + m → c j = 32 ∨ c j = 10) → pm_ev 92 0 [some (.ref 200), none, none, none, none] [] (pm_Mw w (ab_S s0 s2 (nI t) (nI p) s5 s6 s7 s8 s9 s14 s18 s19 s20) (ab_Lg l10 l21 l22) TT R RD SN wt er rk) = pm_ev 92 0 [some (.ref 200), none, none, none, none] [] (pm_Mw w (ab_S s0 s2 (nI t) (nI (p + m)) s5 s6 s7 s8 s9 s14 s18 s19 s20) (ab_Lg l10 l21 l22) TT R RD SN wt er rk) := by
  intro m
  induction m with
  | zero => intro p _ _; rfl
  | succ m ih =>
    intro p hp hj
    obtain ⟨b1, b2⟩ := hT p (by omega)
    have hin := vp_in_nI (show p < 740 by omega) (by omega)
    have go : pm_ev 92 39 [some (.ref 200), none, none, none, none] [] (pm_Mw w (ab_S s0 s2 (nI t) (nI p) s5 s6 s7 s8 s9 s14 s18 s19 s20) (ab_Lg l10 l21 l22) TT R RD SN wt er rk) = pm_ev 92 0 [some (.ref 200), none, none, none, none] [] (pm_Mw w (ab_S s0 s2 (nI t) (nI (p + 1)) s5 s6 s7 s8 s9 s14 s18 s19 s20) (ab_Lg l10 l21 l22) TT R RD SN wt er rk) := by
      conv => lhs; simp only [z92_39, z92_40, z92_41, z92_44, z92_45, z92_46, z92_49, pm_kv_some, pm_kw_some, pm_k_some, pm_k_void, pm_vc_some, pm_kl_some, pg6_0, pg6_1, pg6_2, pg6_3, pg6_4, pg6_5, pg6_6, pg6_7, pg6_8, pg6_9, pg6_10, pg6_11, pg6_12, pg6_13, pg6_14, pg6_15, pg6_16, pg6_17, pg6_18, pg6_19, pg6_20, pg6_21, pg6_22, pp6_0, pp6_2, pp6_3, pp6_4, pp6_5, pp6_6, pp6_7, pp6_8, pp6_9, pp6_10, pp6_14, pp6_18, pp6_19, pp6_20, pp6_21, pp6_22, mw200, aS0, aS2, aS3, aS4, aS5, aS6, aS7, aS8, aS9, aS14, aS18, aS19, aS20, aL10, aL21, aL22, mu200, nI_1]
    rw [show p + (m + 1) = p + 1 + m by omega, ← ih (p + 1) (by omega) (fun j h1 h2 => hj j (by omega) (by omega)), ← go]
    conv => lhs; simp only [z92_0, z92_1, z92_4, z92_5, z92_8, pm_kv_some, pm_kw_some, pm_k_some, pm_k_void, pm_vc_some, pm_kl_some, pg6_0, pg6_1, pg6_2, pg6_3, pg6_4, pg6_5, pg6_6, pg6_7, pg6_8, pg6_9, pg6_10, pg6_11, pg6_12, pg6_13, pg6_14, pg6_15, pg6_16, pg6_17, pg6_18, pg6_19, pg6_20, pg6_21, pg6_22, mw200, aS0, aS2, aS3, aS4, aS5, aS6, aS7, aS8, aS9, aS14, aS18, aS19, aS20, aL10, aL21, aL22]
    rw [if_pos (nI_lt (by omega) (by omega))]
    simp only [z92_11, z92_12, z92_15, z92_16, z92_19, z92_20, z92_22, pm_kv_some, pm_kw_some, pm_k_some, pm_k_void, pm_vc_some, pm_kl_some, pg6_0, pg6_1, pg6_2, pg6_3, pg6_4, pg6_5, pg6_6, pg6_7, pg6_8, pg6_9, pg6_10, pg6_11, pg6_12, pg6_13, pg6_14, pg6_15, pg6_16, pg6_17, pg6_18, pg6_19, pg6_20, pg6_21, pg6_22, mw200, mw202, aS0, aS2, aS3, aS4, aS5, aS6, aS7, aS8, aS9, aS14, aS18, aS19, aS20, aL10, aL21, aL22, pm_ia_in hin, nI_clamp (show p < 2 ^ 31 by omega), b2]
    rcases hj p (by omega) (by omega) with e1 | e1
    · rw [if_pos (show nI (c p) = 32 by rw [e1]; rfl)]
    · rw [if_neg (show ¬ nI (c p) = 32 by rw [e1]; decide)]
      simp only [z92_25, z92_26, z92_29, z92_30, z92_33, z92_34, z92_36, pm_kv_some, pm_kw_some, pm_k_some, pm_k_void, pm_vc_some, pm_kl_some, pg6_0, pg6_1, pg6_2, pg6_3, pg6_4, pg6_5, pg6_6, pg6_7, pg6_8, pg6_9, pg6_10, pg6_11, pg6_12, pg6_13, pg6_14, pg6_15, pg6_16, pg6_17, pg6_18, pg6_19, pg6_20, pg6_21, pg6_22, mw200, mw202, aS0, aS2, aS3, aS4, aS5, aS6, aS7, aS8, aS9, aS14, aS18, aS19, aS20, aL10, aL21, aL22, pm_ia_in hin, nI_clamp (show p < 2 ^ 31 by omega), b2]
      rw [if_pos (show nI (c p) = 10 by rw [e1]; rfl)]
/-- behind the blanks -/
theorem m_go52 (hT : tz_T TT c t) (ht : t ≤ 740) {q : Nat} (hq : q ≤ t) (hnb : q < t → ¬ (c q = 32 ∨ c q = 10)) : pm_ev 92 0 [some (.ref 200), none, none, none, none] [] (pm_Mw w (ab_S s0 s2 (nI t) (nI q) s5 s6 s7 s8 s9 s14 s18 s19 s20) (ab_Lg l10 l21 l22) TT R RD SN wt er rk) = pm_ev 92 52 [some (.ref 200), none, none, none, none] [] (pm_Mw w (ab_S s0 s2 (nI t) (nI q) s5 s6 s7 s8 s9 s14 s18 s19 s20) (ab_Lg l10 l21 l22) TT R RD SN wt er rk) := by
  conv => lhs; simp only [z92_0, z92_1, z92_4, z92_5, z92_8, pm_kv_some, pm_kw_some, pm_k_some, pm_k_void, pm_vc_some, pm_kl_some, pg6_0, pg6_1, pg6_2, pg6_3, pg6_4, pg6_5, pg6_6, pg6_7, pg6_8, pg6_9, pg6_10, pg6_11, pg6_12, pg6_13, pg6_14, pg6_15, pg6_16, pg6_17, pg6_18, pg6_19, pg6_20, pg6_21, pg6_22, mw200, aS0, aS2, aS3, aS4, aS5, aS6, aS7, aS8, aS9, aS14, aS18, aS19, aS20, aL10, aL21, aL22]
  by_cases e : q < t
  · obtain ⟨b1, b2⟩ := hT q e
    have hin := vp_in_nI (show q < 740 by omega) (by omega)
    have hn := hnb e
    rw [if_pos (nI_lt e (by omega))]
    simp only [z92_11, z92_12, z92_15, z92_16, z92_19, z92_20, z92_22, pm_kv_some, pm_kw_some, pm_k_some, pm_k_void, pm_vc_some, pm_kl_some, pg6_0, pg6_1, pg6_2, pg6_3, pg6_4, pg6_5, pg6_6, pg6_7, pg6_8, pg6_9, pg6_10, pg6_11, pg6_12, pg6_13, pg6_14, pg6_15, pg6_16, pg6_17, pg6_18, pg6_19, pg6_20, pg6_21, pg6_22, mw200, mw202, aS0, aS2, aS3, aS4, aS5, aS6, aS7, aS8, aS9, aS14, aS18, aS19, aS20, aL10, aL21, aL22, pm_ia_in hin, nI_clamp (show q < 2 ^ 31 by omega), b2]
    rw [if_neg (show ¬ nI (c q) = 32 from fun z => hn (Or.inl ((nI_eq (b := 32) (by omega) (by omega)).mp z)))]
    simp only [z92_25, z92_26, z92_29, z92_30, z92_33, z92_34, z92_36, pm_kv_some, pm_kw_some, pm_k_some, pm_k_void, pm_vc_some, pm_kl_some, pg6_0, pg6_1, pg6_2, pg6_3, pg6_4, pg6_5, pg6_6, pg6_7, pg6_8, pg6_9, pg6_10, pg6_11, pg6_12, pg6_13, pg6_14, pg6_15, pg6_16, pg6_17, pg6_18, pg6_19, pg6_20, pg6_21, pg6_22, mw200, mw202, aS0, aS2, aS3, aS4, aS5, aS6, aS7, aS8, aS9, aS14, aS18, aS19, aS20, aL10, aL21, aL22, pm_ia_in hin, nI_clamp (show q < 2 ^ 31 by omega), b2]
    rw [if_neg (show ¬ nI (c q) = 10 from fun z => hn (Or.inr ((nI_eq (b := 10) (by omega) (by omega)).mp z)))]
  · rw [if_neg (nI_nlt (by omega) (by omega))]
/-- letters and digits -/
theorem m_run_loop (hT : tz_T TT c t) (ht : t ≤ 740) {s : Nat} {x1 : Option Value} : ∀ (m j : Nat) (x4 : Option Value), s + j + m ≤ t → (∀ i, s + j ≤ i → i < s + j + m → (97 ≤ c i ∧ c i ≤ 122) ∨ (48 ≤ c i ∧ c i ≤ 57)) → ∃ x4' : Option Value, pm_ev 92 177 [some (.ref 200), x1, some (.int (if 97 ≤ c s ∧ c s ≤ 122 then 1 else 0)), some (.int (if (if 97 ≤ c s ∧ c s ≤ 122 then tz_nd c s j else tz_nl c s j) = 0 then 1 else 0)), x4] [] (pm_Mw w (ab_S s0 s2 (nI t) (nI (s + j)) (nI s) s6 (tz_n c s j) s8 s9 s14 s18 s19 s20) (ab_Lg (tz_w c s j) l21 l22) TT R RD SN wt er rk)
    = pm_ev 92 177 [some (.ref 200), x1, some (.int (if 97 ≤ c s ∧ c s ≤ 122 then 1 else 0)), some (.int (if (if 97 ≤ c s ∧ c s ≤ 122 then tz_nd c s (j + m) else tz_nl c s (j + m)) = 0 then 1 else 0)), x4'] [] (pm_Mw w (ab_S s0 s2 (nI t) (nI (s + j + m)) (nI s) s6 (tz_n c s (j + m)) s8 s9 s14 s18 s19 s20) (ab_Lg (tz_w c s (j + m)) l21 l22) TT R RD SN wt er rk) := by
  intro m
  induction m with
  | zero => intro j x4 _ _; exact ⟨x4, rfl⟩
  | succ m ih =>
    intro j x4 hj hc
    have hld := hc (s + j) (by omega) (by omega)
    obtain ⟨b1, b2⟩ := hT (s + j) (by omega)
    have hin := vp_in_nI (show s + j < 740 by omega) (by omega)
    obtain ⟨x4', hx⟩ := ih (j + 1) (some (.int (nI (c (s + j))))) (by omega) (fun i h1 h2 => hc i (by omega) (by omega))
    refine ⟨x4', ?_⟩
    rw [show j + (m + 1) = j + 1 + m by omega, show s + j + (m + 1) = s + (j + 1) + m by omega, ← hx]
    have hsub : nI (s + j) - nI s = nI j := by rw [pk_sub (by omega)]; congr 1; omega
    have t205 : ∀ (g : Int32), (g = if (if 97 ≤ c s ∧ c s ≤ 122 then tz_nd c s j else tz_nl c s j) = 0 then 1 else 0) → pm_ev 92 205 [some (.ref 200), x1, some (.int (if 97 ≤ c s ∧ c s ≤ 122 then 1 else 0)), some (.int g), x4] [] (pm_Mw w (ab_S s0 s2 (nI t) (nI (s + j)) (nI s) s6 (tz_n c s j) s8 s9 s14 s18 s19 s20) (ab_Lg (tz_w c s j) l21 l22) TT R RD SN wt er rk) = pm_ev 92 177 [some (.ref 200), x1, some (.int (if 97 ≤ c s ∧ c s ≤ 122 then 1 else 0)), some (.int (if (if 97 ≤ c s ∧ c s ≤ 122 then tz_nd c s (j + 1) else tz_nl c s (j + 1)) = 0 then 1 else 0)), some (.int (nI (c (s + j))))] [] (pm_Mw w (ab_S s0 s2 (nI t) (nI (s + (j + 1))) (nI s) s6 (tz_n c s (j + 1)) s8 s9 s14 s18 s19 s20) (ab_Lg (tz_w c s (j + 1)) l21 l22) TT R RD SN wt er rk) := by
      intro g hg
      have t235 : ∀ (g' : Int32), (g' = if (if 97 ≤ c s ∧ c s ≤ 122 then tz_nd c s (j + 1) else tz_nl c s (j + 1)) = 0 then 1 else 0) → pm_ev 92 235 [some (.ref 200), x1, some (.int (if 97 ≤ c s ∧ c s ≤ 122 then 1 else 0)), some (.int g'), some (.int (nI (c (s + j))))] [] (pm_Mw w (ab_S s0 s2 (nI t) (nI (s + j)) (nI s) s6 (tz_n c s j) s8 s9 s14 s18 s19 s20) (ab_Lg (tz_w c s j) l21 l22) TT R RD SN wt er rk) = pm_ev 92 177 [some (.ref 200), x1, some (.int (if 97 ≤ c s ∧ c s ≤ 122 then 1 else 0)), some (.int (if (if 97 ≤ c s ∧ c s ≤ 122 then tz_nd c s (j + 1) else tz_nl c s (j + 1)) = 0 then 1 else 0)), some (.int (nI (c (s + j))))] [] (pm_Mw w (ab_S s0 s2 (nI t) (nI (s + (j + 1))) (nI s) s6 (tz_n c s (j + 1)) s8 s9 s14 s18 s19 s20) (ab_Lg (tz_w c s (j + 1)) l21 l22) TT R RD SN wt er rk) := by
        intro g' hg'
        rw [← hg']
        have t269 : ∀ W : Int64, pm_ev 92 269 [some (.ref 200), x1, some (.int (if 97 ≤ c s ∧ c s ≤ 122 then 1 else 0)), some (.int g'), some (.int (nI (c (s + j))))] [] (pm_Mw w (ab_S s0 s2 (nI t) (nI (s + j)) (nI s) s6 (tz_n c s j) s8 s9 s14 s18 s19 s20) (ab_Lg W l21 l22) TT R RD SN wt er rk) = pm_ev 92 177 [some (.ref 200), x1, some (.int (if 97 ≤ c s ∧ c s ≤ 122 then 1 else 0)), some (.int g'), some (.int (nI (c (s + j))))] [] (pm_Mw w (ab_S s0 s2 (nI t) (nI (s + (j + 1))) (nI s) s6 (tz_n c s (j + 1)) s8 s9 s14 s18 s19 s20) (ab_Lg W l21 l22) TT R RD SN wt er rk) := by
          intro W
          conv => lhs; simp only [z92_269, z92_270, z92_273, z92_274, z92_277, z92_278, z92_279, pm_kv_some, pm_kw_some, pm_k_some, pm_k_void, pm_vc_some, pm_kl_some, pg6_0, pg6_1, pg6_2, pg6_3, pg6_4, pg6_5, pg6_6, pg6_7, pg6_8, pg6_9, pg6_10, pg6_11, pg6_12, pg6_13, pg6_14, pg6_15, pg6_16, pg6_17, pg6_18, pg6_19, pg6_20, pg6_21, pg6_22, mw200, aS0, aS2, aS3, aS4, aS5, aS6, aS7, aS8, aS9, aS14, aS18, aS19, aS20, aL10, aL21, aL22, hsub]
          by_cases e5 : j < 5
          · rw [if_pos (show nI j < 5 from nI_lt (b := 5) e5 (by omega))]
            have en : tz_n c s (j + 1) = 10 * tz_n c s j + nI (c (s + j)) - 48 := by
              show (if _ then _ else _) = _
              rw [if_pos e5]
            rw [en]
            conv => lhs; simp only [z92_282, z92_283, z92_285, z92_286, z92_289, z92_290, z92_292, z92_293, z92_295, z92_296, z92_299, z92_300, z92_301, z92_304, z92_305, z92_306, z92_309, pm_kv_some, pm_kw_some, pm_k_some, pm_k_void, pm_vc_some, pm_kl_some, pg6_0, pg6_1, pg6_2, pg6_3, pg6_4, pg6_5, pg6_6, pg6_7, pg6_8, pg6_9, pg6_10, pg6_11, pg6_12, pg6_13, pg6_14, pg6_15, pg6_16, pg6_17, pg6_18, pg6_19, pg6_20, pg6_21, pg6_22, pp6_0, pp6_2, pp6_3, pp6_4, pp6_5, pp6_6, pp6_7, pp6_8, pp6_9, pp6_10, pp6_14, pp6_18, pp6_19, pp6_20, pp6_21, pp6_22, mw200, aS0, aS2, aS3, aS4, aS5, aS6, aS7, aS8, aS9, aS14, aS18, aS19, aS20, aL10, aL21, aL22, mu200, nI_1]
            rfl
          · rw [if_neg (show ¬ nI j < 5 from nI_nlt (b := 5) (by omega) (by omega))]
            have en : tz_n c s (j + 1) = tz_n c s j := by
              show (if _ then _ else _) = _
              rw [if_neg e5]
            rw [en]
            conv => lhs; simp only [z92_299, z92_300, z92_301, z92_304, z92_305, z92_306, z92_309, pm_kv_some, pm_kw_some, pm_k_some, pm_k_void, pm_vc_some, pm_kl_some, pg6_0, pg6_1, pg6_2, pg6_3, pg6_4, pg6_5, pg6_6, pg6_7, pg6_8, pg6_9, pg6_10, pg6_11, pg6_12, pg6_13, pg6_14, pg6_15, pg6_16, pg6_17, pg6_18, pg6_19, pg6_20, pg6_21, pg6_22, pp6_0, pp6_2, pp6_3, pp6_4, pp6_5, pp6_6, pp6_7, pp6_8, pp6_9, pp6_10, pp6_14, pp6_18, pp6_19, pp6_20, pp6_21, pp6_22, mw200, aS0, aS2, aS3, aS4, aS5, aS6, aS7, aS8, aS9, aS14, aS18, aS19, aS20, aL10, aL21, aL22, mu200, nI_1]
            rfl
        rw [← t269]
        conv => lhs; simp only [z92_235, z92_236, z92_239, z92_240, z92_243, z92_244, z92_246, pm_kv_some, pm_kw_some, pm_k_some, pm_k_void, pm_vc_some, pm_kl_some, pg6_0, pg6_1, pg6_2, pg6_3, pg6_4, pg6_5, pg6_6, pg6_7, pg6_8, pg6_9, pg6_10, pg6_11, pg6_12, pg6_13, pg6_14, pg6_15, pg6_16, pg6_17, pg6_18, pg6_19, pg6_20, pg6_21, pg6_22, mw200, aS0, aS2, aS3, aS4, aS5, aS6, aS7, aS8, aS9, aS14, aS18, aS19, aS20, aL10, aL21, aL22, hsub]
        by_cases e8 : j < 8
        · rw [if_pos (show nI j < 8 from nI_lt (b := 8) e8 (by omega))]
          have ew : tz_w c s (j + 1) = 27 * tz_w c s j + (nI (c (s + j))).toInt64 - 96 := by
            show (if _ then _ else _) = _
            rw [if_pos e8]
          rw [ew]
          conv => lhs; simp only [z92_249, z92_250, z92_253, z92_254, z92_257, z92_258, z92_260, z92_261, z92_262, z92_265, z92_266, pm_kv_some, pm_kw_some, pm_k_some, pm_k_void, pm_vc_some, pm_kl_some, pg6_0, pg6_1, pg6_2, pg6_3, pg6_4, pg6_5, pg6_6, pg6_7, pg6_8, pg6_9, pg6_10, pg6_11, pg6_12, pg6_13, pg6_14, pg6_15, pg6_16, pg6_17, pg6_18, pg6_19, pg6_20, pg6_21, pg6_22, pp6_0, pp6_2, pp6_3, pp6_4, pp6_5, pp6_6, pp6_7, pp6_8, pp6_9, pp6_10, pp6_14, pp6_18, pp6_19, pp6_20, pp6_21, pp6_22, mw200, aS0, aS2, aS3, aS4, aS5, aS6, aS7, aS8, aS9, aS14, aS18, aS19, aS20, aL10, aL21, aL22, mu200]
        · rw [if_neg (show ¬ nI j < 8 from nI_nlt (b := 8) (by omega) (by omega))]
          have ew : tz_w c s (j + 1) = tz_w c s j := by
            show (if _ then _ else _) = _
            rw [if_neg e8]
          rw [ew]
      conv => lhs; simp only [z92_205, z92_206, z92_209, z92_210, z92_213, z92_214, z92_216, z92_217, pm_kv_some, pm_kw_some, pm_k_some, pm_k_void, pm_vc_some, pm_kl_some, pg6_0, pg6_1, pg6_2, pg6_3, pg6_4, pg6_5, pg6_6, pg6_7, pg6_8, pg6_9, pg6_10, pg6_11, pg6_12, pg6_13, pg6_14, pg6_15, pg6_16, pg6_17, pg6_18, pg6_19, pg6_20, pg6_21, pg6_22, mw200, mw202, aS0, aS2, aS3, aS4, aS5, aS6, aS7, aS8, aS9, aS14, aS18, aS19, aS20, aL10, aL21, aL22, pm_ia_in hin, nI_clamp (show s + j < 2 ^ 31 by omega), b2]
      have l1 : tz_nl c s (j + 1) = tz_nl c s j + (if 97 ≤ c (s + j) ∧ c (s + j) ≤ 122 then 1 else 0) := rfl
      have d1 : tz_nd c s (j + 1) = tz_nd c s j + (if 48 ≤ c (s + j) ∧ c (s + j) ≤ 57 then 1 else 0) := rfl
      by_cases e1 : (if 97 ≤ c s ∧ c s ≤ 122 then tz_nd c s j else tz_nl c s j) = 0
      · rw [if_pos e1] at hg
        subst hg
        rw [if_neg (by decide)]
        simp only [z92_220, z92_222, z92_225, z92_226, pm_kv_some, pm_kw_some, pm_k_some, pm_k_void, pm_vc_some, pm_kl_some, q_isLetter (show c (s + j) < 2 ^ 31 by omega)]
        by_cases e2 : 97 ≤ c s ∧ c s ≤ 122
        · rw [if_pos e2] at e1
          by_cases e3 : 97 ≤ c (s + j) ∧ c (s + j) ≤ 122
          · rw [if_pos (by rw [if_pos e3, if_pos e2])]
            simp only [z92_229, z92_230, z92_233, z92_234]
            exact t235 1 (by rw [if_pos e2, d1, e1, if_neg (show ¬ (48 ≤ c (s + j) ∧ c (s + j) ≤ 57) by omega)]; rfl)
          · rw [if_neg (by rw [if_neg e3, if_pos e2]; decide)]
            simp only [z92_233, z92_234]
            exact t235 0 (by rw [if_pos e2, d1, e1, if_pos (hld.resolve_left e3)]; rfl)
        · rw [if_neg e2] at e1
          by_cases e3 : 97 ≤ c (s + j) ∧ c (s + j) ≤ 122
          · rw [if_neg (by rw [if_pos e3, if_neg e2]; decide)]
            simp only [z92_233, z92_234]
            exact t235 0 (by rw [if_neg e2, l1, e1, if_pos e3]; rfl)
          · rw [if_pos (by rw [if_neg e3, if_neg e2])]
            simp only [z92_229, z92_230, z92_233, z92_234]
            exact t235 1 (by rw [if_neg e2, l1, e1, if_neg e3]; rfl)
      · rw [if_neg e1] at hg
        subst hg
        rw [if_pos rfl]
        simp only [z92_233, z92_234]
        refine t235 0 ?_
        rw [if_neg]
        split at e1
        · rename_i e2; rw [if_pos e2, d1]; omega
        · rename_i e2; rw [if_neg e2, l1]; omega
    have hta := m_tapeAt (w := w) (TT := TT) (R := R) (RD := RD) (SN := SN) (wt := wt) (er := er) (rk := rk) (s0 := s0) (s2 := s2) (s4 := nI (s + j)) (s5 := nI s) (s6 := s6) (s7 := tz_n c s j) (s8 := s8) (s9 := s9) (s14 := s14) (s18 := s18) (s19 := s19) (s20 := s20) (l10 := tz_w c s j) (l21 := l21) (l22 := l22) hT ht (show s + j ≤ t by omega)
    rw [if_pos (show s + j < t by omega)] at hta
    conv => lhs; simp only [z92_177, z92_178, z92_179, z92_182, z92_185, z92_188, pm_kv_some, pm_kw_some, pm_k_some, pm_k_void, pm_vc_some, pm_kl_some, pg6_0, pg6_1, pg6_2, pg6_3, pg6_4, pg6_5, pg6_6, pg6_7, pg6_8, pg6_9, pg6_10, pg6_11, pg6_12, pg6_13, pg6_14, pg6_15, pg6_16, pg6_17, pg6_18, pg6_19, pg6_20, pg6_21, pg6_22, mw200, aS0, aS2, aS3, aS4, aS5, aS6, aS7, aS8, aS9, aS14, aS18, aS19, aS20, aL10, aL21, aL22, hta, q_isLetter (show c (s + j) < 2 ^ 31 by omega)]
    by_cases e3 : 97 ≤ c (s + j) ∧ c (s + j) ≤ 122
    · rw [if_neg (by rw [if_pos e3]; decide)]
      exact t205 _ rfl
    · rw [if_pos (by rw [if_neg e3])]
      conv => lhs; simp only [z92_191, z92_192, z92_193, z92_196, z92_199, z92_202, pm_kv_some, pm_kw_some, pm_k_some, pm_k_void, pm_vc_some, pm_kl_some, pg6_0, pg6_1, pg6_2, pg6_3, pg6_4, pg6_5, pg6_6, pg6_7, pg6_8, pg6_9, pg6_10, pg6_11, pg6_12, pg6_13, pg6_14, pg6_15, pg6_16, pg6_17, pg6_18, pg6_19, pg6_20, pg6_21, pg6_22, mw200, aS0, aS2, aS3, aS4, aS5, aS6, aS7, aS8, aS9, aS14, aS18, aS19, aS20, aL10, aL21, aL22, hta, q_isDigit (show c (s + j) < 2 ^ 31 by omega)]
      rw [if_neg (by rw [if_pos (hld.resolve_left e3)]; decide)]
      exact t205 _ rfl
theorem m_go (hT : tz_T TT c t) (ht : t ≤ 740) {p : Nat} (hp : p ≤ t) : ∃ (s4' s5' s6' s7' : Int32) (l10' : Int64), pm_call 92 [.ref 200] (pm_Mw w (ab_S s0 s2 (nI t) (nI p) s5 s6 s7 s8 s9 s14 s18 s19 s20) (ab_Lg l10 l21 l22) TT R RD SN wt er rk) = some (none, (pm_Mw w (ab_S s0 s2 (nI t) s4' s5' s6' s7' s8 s9 s14 s18 s19 s20) (ab_Lg l10' l21 l22) TT R RD SN wt er rk)) ∧ tz_cur c t p s4' s5' s6' s7' l10' := by
  have h := tz_t_at (c := c) hp
  unfold tz_cur
  generalize (tz_t c t p).1 = k at *
  generalize (tz_t c t p).2.1 = s at *
  generalize (tz_t c t p).2.2 = r at *
  have st : pm_call 92 [.ref 200] (pm_Mw w (ab_S s0 s2 (nI t) (nI p) s5 s6 s7 s8 s9 s14 s18 s19 s20) (ab_Lg l10 l21 l22) TT R RD SN wt er rk) = pm_ev 92 0 [some (.ref 200), none, none, none, none] [] (pm_Mw w (ab_S s0 s2 (nI t) (nI p) s5 s6 s7 s8 s9 s14 s18 s19 s20) (ab_Lg l10 l21 l22) TT R RD SN wt er rk) := by
    simp only [pe92]
  rw [st]
  have c52 : ∀ q : Nat, pm_ev 92 52 [some (.ref 200), none, none, none, none] [] (pm_Mw w (ab_S s0 s2 (nI t) (nI q) s5 s6 s7 s8 s9 s14 s18 s19 s20) (ab_Lg l10 l21 l22) TT R RD SN wt er rk) = if 700 < nI t then (if nI q < 700 then pm_ev 92 93 [some (.ref 200), none, none, none, none] [] (pm_Mw w (ab_S s0 s2 (nI t) (nI q) (nI q) s6 s7 s8 s9 s14 s18 s19 s20) (ab_Lg l10 l21 l22) TT R RD SN wt er rk) else some (none, (pm_Mw w (ab_S s0 s2 (nI t) (nI q) 700 1 s7 s8 s9 s14 s18 s19 s20) (ab_Lg l10 l21 l22) TT R RD SN wt er rk))) else pm_ev 92 93 [some (.ref 200), none, none, none, none] [] (pm_Mw w (ab_S s0 s2 (nI t) (nI q) (nI q) s6 s7 s8 s9 s14 s18 s19 s20) (ab_Lg l10 l21 l22) TT R RD SN wt er rk) := by
    intro q
    conv => lhs; simp only [z92_52, z92_53, z92_54, z92_57, z92_60, z92_61, z92_64, z92_67, pm_kv_some, pm_kw_some, pm_k_some, pm_k_void, pm_vc_some, pm_kl_some, pg6_0, pg6_1, pg6_2, pg6_3, pg6_4, pg6_5, pg6_6, pg6_7, pg6_8, pg6_9, pg6_10, pg6_11, pg6_12, pg6_13, pg6_14, pg6_15, pg6_16, pg6_17, pg6_18, pg6_19, pg6_20, pg6_21, pg6_22, pp6_0, pp6_2, pp6_3, pp6_4, pp6_5, pp6_6, pp6_7, pp6_8, pp6_9, pp6_10, pp6_14, pp6_18, pp6_19, pp6_20, pp6_21, pp6_22, mw200, aS0, aS2, aS3, aS4, aS5, aS6, aS7, aS8, aS9, aS14, aS18, aS19, aS20, aL10, aL21, aL22, mu200]
    by_cases e1 : 700 < nI t
    · rw [if_pos e1, if_pos e1]
      conv => lhs; simp only [z92_70, z92_71, z92_74, z92_77, pm_kv_some, pm_kw_some, pm_k_some, pm_k_void, pm_vc_some, pm_kl_some, pg6_0, pg6_1, pg6_2, pg6_3, pg6_4, pg6_5, pg6_6, pg6_7, pg6_8, pg6_9, pg6_10, pg6_11, pg6_12, pg6_13, pg6_14, pg6_15, pg6_16, pg6_17, pg6_18, pg6_19, pg6_20, pg6_21, pg6_22, mw200, aS0, aS2, aS3, aS4, aS5, aS6, aS7, aS8, aS9, aS14, aS18, aS19, aS20, aL10, aL21, aL22]
      by_cases e2 : nI q < 700
      · rw [if_pos e2, if_pos e2]
      · rw [if_neg e2, if_neg e2]
        simp only [z92_80, z92_81, z92_84, z92_87, z92_88, z92_89, z92_92, pm_kv_some, pm_kw_some, pm_k_some, pm_k_void, pm_vc_some, pm_kl_some, pp6_0, pp6_2, pp6_3, pp6_4, pp6_5, pp6_6, pp6_7, pp6_8, pp6_9, pp6_10, pp6_14, pp6_18, pp6_19, pp6_20, pp6_21, pp6_22, mw200, aS0, aS2, aS3, aS4, aS5, aS6, aS7, aS8, aS9, aS14, aS18, aS19, aS20, aL10, aL21, aL22, mu200]
    · rw [if_neg e1, if_neg e1]
  rcases h with h | h | h
  · obtain ⟨hk, hs, ht7, q, q1, q2, q3, q4, q5⟩ := h
    subst hk; subst hs
    refine ⟨nI q, 700, 1, s7, l10, ?_, rfl, rfl, fun z => by omega, fun z => by omega, fun z => by omega⟩
    rw [m_skip hT ht (q - p) p (by omega) (fun j h1 h2 => q4 j h1 (by omega)), show p + (q - p) = q by omega, m_go52 hT ht q3 q5, c52, if_pos (show 700 < nI t from nI_lt (a := 700) ht7 (by omega)), if_neg (show ¬ nI q < 700 from nI_nlt (b := 700) q2 (by omega))]
  · obtain ⟨hk, hs, ht7, hpt, hj⟩ := h
    subst hk; subst hs
    refine ⟨nI s, nI s, 0, s7, l10, ?_, rfl, rfl, fun z => by omega, fun z => by omega, fun z => by omega⟩
    rw [m_skip hT ht (s - p) p (by omega) (fun j h1 h2 => hj j h1 (by omega)), show p + (s - p) = s by omega, m_go52 hT ht (Nat.le_refl _) (fun z => by omega), c52, if_neg (show ¬ 700 < nI s from nI_nlt (a := 700) ht7 (by omega))]
    simp only [z92_93, z92_94, z92_97, z92_98, z92_101, pm_kv_some, pm_kw_some, pm_k_some, pm_k_void, pm_vc_some, pm_kl_some, pg6_0, pg6_1, pg6_2, pg6_3, pg6_4, pg6_5, pg6_6, pg6_7, pg6_8, pg6_9, pg6_10, pg6_11, pg6_12, pg6_13, pg6_14, pg6_15, pg6_16, pg6_17, pg6_18, pg6_19, pg6_20, pg6_21, pg6_22, mw200, aS0, aS2, aS3, aS4, aS5, aS6, aS7, aS8, aS9, aS14, aS18, aS19, aS20, aL10, aL21, aL22]
    rw [if_neg (nI_nlt (by omega) (by omega))]
    simp only [z92_104, z92_105, z92_106, z92_109, pm_kv_some, pm_kw_some, pm_k_some, pm_k_void, pm_vc_some, pm_kl_some, pp6_0, pp6_2, pp6_3, pp6_4, pp6_5, pp6_6, pp6_7, pp6_8, pp6_9, pp6_10, pp6_14, pp6_18, pp6_19, pp6_20, pp6_21, pp6_22, mw200, aS0, aS2, aS3, aS4, aS5, aS6, aS7, aS8, aS9, aS14, aS18, aS19, aS20, aL10, aL21, aL22, mu200]
  · obtain ⟨hk5, hk0, hps, hst, hs7, hj, hnb, hc⟩ := h
    obtain ⟨b1, b2⟩ := hT s hst
    have hin := vp_in_nI (show s < 740 by omega) (by omega)
    have e93 : (if 700 < nI t then (if nI s < 700 then pm_ev 92 93 [some (.ref 200), none, none, none, none] [] (pm_Mw w (ab_S s0 s2 (nI t) (nI s) (nI s) s6 s7 s8 s9 s14 s18 s19 s20) (ab_Lg l10 l21 l22) TT R RD SN wt er rk) else some (none, (pm_Mw w (ab_S s0 s2 (nI t) (nI s) 700 1 s7 s8 s9 s14 s18 s19 s20) (ab_Lg l10 l21 l22) TT R RD SN wt er rk))) else pm_ev 92 93 [some (.ref 200), none, none, none, none] [] (pm_Mw w (ab_S s0 s2 (nI t) (nI s) (nI s) s6 s7 s8 s9 s14 s18 s19 s20) (ab_Lg l10 l21 l22) TT R RD SN wt er rk)) = pm_ev 92 93 [some (.ref 200), none, none, none, none] [] (pm_Mw w (ab_S s0 s2 (nI t) (nI s) (nI s) s6 s7 s8 s9 s14 s18 s19 s20) (ab_Lg l10 l21 l22) TT R RD SN wt er rk) := by
      rw [if_pos (show nI s < 700 from nI_lt (b := 700) hs7 (by omega)), ite_self]
    rw [m_skip hT ht (s - p) p (by omega) (fun j h1 h2 => hj j h1 (by omega)), show p + (s - p) = s by omega, m_go52 hT ht (by omega) (fun _ => hnb), c52, e93]
    have e110 : pm_ev 92 93 [some (.ref 200), none, none, none, none] [] (pm_Mw w (ab_S s0 s2 (nI t) (nI s) (nI s) s6 s7 s8 s9 s14 s18 s19 s20) (ab_Lg l10 l21 l22) TT R RD SN wt er rk) = if (97 ≤ c s ∧ c s ≤ 122) ∨ (48 ≤ c s ∧ c s ≤ 57) then pm_ev 92 160 [some (.ref 200), some (.int (nI (c s))), none, none, none] [] (pm_Mw w (ab_S s0 s2 (nI t) (nI s) (nI s) s6 s7 s8 s9 s14 s18 s19 s20) (ab_Lg l10 l21 l22) TT R RD SN wt er rk) else pm_ev 92 134 [some (.ref 200), some (.int (nI (c s))), none, none, none] [] (pm_Mw w (ab_S s0 s2 (nI t) (nI s) (nI s) s6 s7 s8 s9 s14 s18 s19 s20) (ab_Lg l10 l21 l22) TT R RD SN wt er rk) := by
      conv => lhs; simp only [z92_93, z92_94, z92_97, z92_98, z92_101, pm_kv_some, pm_kw_some, pm_k_some, pm_k_void, pm_vc_some, pm_kl_some, pg6_0, pg6_1, pg6_2, pg6_3, pg6_4, pg6_5, pg6_6, pg6_7, pg6_8, pg6_9, pg6_10, pg6_11, pg6_12, pg6_13, pg6_14, pg6_15, pg6_16, pg6_17, pg6_18, pg6_19, pg6_20, pg6_21, pg6_22, mw200, aS0, aS2, aS3, aS4, aS5, aS6, aS7, aS8, aS9, aS14, aS18, aS19, aS20, aL10, aL21, aL22]
      rw [if_pos (nI_lt hst (by omega))]
      conv => lhs; simp only [z92_110, z92_111, z92_114, z92_115, z92_118, z92_119, z92_120, z92_121, z92_124, pm_kv_some, pm_kw_some, pm_k_some, pm_k_void, pm_vc_some, pm_kl_some, pg6_0, pg6_1, pg6_2, pg6_3, pg6_4, pg6_5, pg6_6, pg6_7, pg6_8, pg6_9, pg6_10, pg6_11, pg6_12, pg6_13, pg6_14, pg6_15, pg6_16, pg6_17, pg6_18, pg6_19, pg6_20, pg6_21, pg6_22, mw200, mw202, aS0, aS2, aS3, aS4, aS5, aS6, aS7, aS8, aS9, aS14, aS18, aS19, aS20, aL10, aL21, aL22, pm_ia_in hin, nI_clamp (show s < 2 ^ 31 by omega), b2, q_isLetter (show c s < 2 ^ 31 by omega)]
      by_cases g1 : 97 ≤ c s ∧ c s ≤ 122
      · rw [if_neg (by rw [if_pos g1]; decide), if_pos (Or.inl g1)]
      · rw [if_pos (by rw [if_neg g1])]
        conv => lhs; simp only [z92_127, z92_128, z92_131, pm_kv_some, pm_kw_some, pm_k_some, pm_k_void, pm_vc_some, pm_kl_some, q_isDigit (show c s < 2 ^ 31 by omega)]
        by_cases g2 : 48 ≤ c s ∧ c s ≤ 57
        · rw [if_neg (by rw [if_pos g2]; decide), if_pos (Or.inr g2)]
        · rw [if_pos (by rw [if_neg g2]), if_neg (by omega)]
    rw [e110]
    rcases hc with hc | hc
    · obtain ⟨hk, h59, hr⟩ := hc
      subst hk; subst hr
      refine ⟨nI (s + 1), nI s, 4, s7, l10, ?_, rfl, rfl, fun _ => rfl, fun z => by omega, fun z => by omega⟩
      rw [if_neg (by omega)]
      simp only [z92_134, z92_135, z92_136, z92_138]
      rw [if_pos (show nI (c s) = 59 by rw [h59]; rfl)]
      simp only [z92_141, z92_142, z92_146, z92_149, z92_150, z92_151, z92_154, z92_155, z92_156, z92_159, pm_kv_some, pm_kw_some, pm_k_some, pm_k_void, pm_vc_some, pm_kl_some, pg6_0, pg6_1, pg6_2, pg6_3, pg6_4, pg6_5, pg6_6, pg6_7, pg6_8, pg6_9, pg6_10, pg6_11, pg6_12, pg6_13, pg6_14, pg6_15, pg6_16, pg6_17, pg6_18, pg6_19, pg6_20, pg6_21, pg6_22, pp6_0, pp6_2, pp6_3, pp6_4, pp6_5, pp6_6, pp6_7, pp6_8, pp6_9, pp6_10, pp6_14, pp6_18, pp6_19, pp6_20, pp6_21, pp6_22, mw200, aS0, aS2, aS3, aS4, aS5, aS6, aS7, aS8, aS9, aS14, aS18, aS19, aS20, aL10, aL21, aL22, mu200, nI_1]
    · obtain ⟨hk3, h59, hsr, hrt, hld, hend, hk⟩ := hc
      by_cases g : (97 ≤ c s ∧ c s ≤ 122) ∨ (48 ≤ c s ∧ c s ≤ 57)
      · have hsr' : s < r := by
          refine Classical.byContradiction fun z => ?_
          have : r = s := by omega
          subst this
          exact hend hst g
        rw [if_pos g]
        obtain ⟨x4', hx⟩ := m_run_loop (w := w) (TT := TT) (R := R) (RD := RD) (SN := SN) (wt := wt) (er := er) (rk := rk) (s0 := s0) (s2 := s2) (s6 := s6) (s8 := s8) (s9 := s9) (s14 := s14) (s18 := s18) (s19 := s19) (s20 := s20) (l21 := l21) (l22 := l22) (x1 := some (.int (nI (c s)))) hT ht (s := s) (r - s) 0 none (by omega) (fun i h1 h2 => hld i (by omega) (by omega))
        rw [Nat.zero_add, Nat.add_zero, show s + (r - s) = r by omega] at hx
        have hx0 : pm_ev 92 160 [some (.ref 200), some (.int (nI (c s))), none, none, none] [] (pm_Mw w (ab_S s0 s2 (nI t) (nI s) (nI s) s6 s7 s8 s9 s14 s18 s19 s20) (ab_Lg l10 l21 l22) TT R RD SN wt er rk) = pm_ev 92 177 [some (.ref 200), some (.int (nI (c s))), some (.int (if 97 ≤ c s ∧ c s ≤ 122 then 1 else 0)), some (.int (if (if 97 ≤ c s ∧ c s ≤ 122 then tz_nd c s 0 else tz_nl c s 0) = 0 then 1 else 0)), none] [] (pm_Mw w (ab_S s0 s2 (nI t) (nI s) (nI s) s6 (tz_n c s 0) s8 s9 s14 s18 s19 s20) (ab_Lg (tz_w c s 0) l21 l22) TT R RD SN wt er rk) := by
          conv => lhs; simp only [z92_160, z92_161, z92_164, z92_165, z92_166, z92_167, z92_168, z92_169, z92_172, z92_173, z92_174, pm_kv_some, pm_kw_some, pm_k_some, pm_k_void, pm_vc_some, pm_kl_some, pp6_0, pp6_2, pp6_3, pp6_4, pp6_5, pp6_6, pp6_7, pp6_8, pp6_9, pp6_10, pp6_14, pp6_18, pp6_19, pp6_20, pp6_21, pp6_22, mw200, aS0, aS2, aS3, aS4, aS5, aS6, aS7, aS8, aS9, aS14, aS18, aS19, aS20, aL10, aL21, aL22, mu200, q_isLetter (show c s < 2 ^ 31 by omega)]
          rw [if_pos (show (if 97 ≤ c s ∧ c s ≤ 122 then tz_nd c s 0 else tz_nl c s 0) = 0 by split <;> rfl)]
          rfl
        rw [hx0, hx]
        have hcnt := tz_cnt (c := c) (s := s) (r - s) (fun j h1 h2 => hld j h1 (by omega))
        have hta := m_tapeAt (w := w) (TT := TT) (R := R) (RD := RD) (SN := SN) (wt := wt) (er := er) (rk := rk) (s0 := s0) (s2 := s2) (s4 := nI r) (s5 := nI s) (s6 := s6) (s7 := tz_n c s (r - s)) (s8 := s8) (s9 := s9) (s14 := s14) (s18 := s18) (s19 := s19) (s20 := s20) (l10 := tz_w c s (r - s)) (l21 := l21) (l22 := l22) hT ht hrt
        have hz : ¬ ((97 ≤ (if r < t then c r else 0) ∧ (if r < t then c r else 0) ≤ 122) ∨ (48 ≤ (if r < t then c r else 0) ∧ (if r < t then c r else 0) ≤ 57)) := by
          by_cases e : r < t
          · rw [if_pos e]; exact hend e
          · rw [if_neg e]; omega
        have hzb : (if r < t then c r else 0) < 2 ^ 31 := by
          by_cases e : r < t
          · rw [if_pos e]; have := (hT r e).1; omega
          · rw [if_neg e]; omega
        generalize (if r < t then c r else 0) = zc at *
        have hsub : nI r - nI s = nI (r - s) := pk_sub (by omega)
        have e312 : ∀ (gd : Int32) (x : Option Value), pm_ev 92 177 [some (.ref 200), some (.int (nI (c s))), some (.int (if 97 ≤ c s ∧ c s ≤ 122 then 1 else 0)), some (.int gd), x] [] (pm_Mw w (ab_S s0 s2 (nI t) (nI r) (nI s) s6 (tz_n c s (r - s)) s8 s9 s14 s18 s19 s20) (ab_Lg (tz_w c s (r - s)) l21 l22) TT R RD SN wt er rk) = pm_ev 92 312 [some (.ref 200), some (.int (nI (c s))), some (.int (if 97 ≤ c s ∧ c s ≤ 122 then 1 else 0)), some (.int gd), x] [] (pm_Mw w (ab_S s0 s2 (nI t) (nI r) (nI s) s6 (tz_n c s (r - s)) s8 s9 s14 s18 s19 s20) (ab_Lg (tz_w c s (r - s)) l21 l22) TT R RD SN wt er rk) := by
          intro gd x
          conv => lhs; simp only [z92_177, z92_178, z92_179, z92_182, z92_185, z92_188, pm_kv_some, pm_kw_some, pm_k_some, pm_k_void, pm_vc_some, pm_kl_some, pg6_0, pg6_1, pg6_2, pg6_3, pg6_4, pg6_5, pg6_6, pg6_7, pg6_8, pg6_9, pg6_10, pg6_11, pg6_12, pg6_13, pg6_14, pg6_15, pg6_16, pg6_17, pg6_18, pg6_19, pg6_20, pg6_21, pg6_22, mw200, aS0, aS2, aS3, aS4, aS5, aS6, aS7, aS8, aS9, aS14, aS18, aS19, aS20, aL10, aL21, aL22, hta, q_isLetter hzb]
          rw [if_pos (by rw [if_neg (fun z => hz (Or.inl z))])]
          conv => lhs; simp only [z92_191, z92_192, z92_193, z92_196, z92_199, z92_202, pm_kv_some, pm_kw_some, pm_k_some, pm_k_void, pm_vc_some, pm_kl_some, pg6_0, pg6_1, pg6_2, pg6_3, pg6_4, pg6_5, pg6_6, pg6_7, pg6_8, pg6_9, pg6_10, pg6_11, pg6_12, pg6_13, pg6_14, pg6_15, pg6_16, pg6_17, pg6_18, pg6_19, pg6_20, pg6_21, pg6_22, mw200, aS0, aS2, aS3, aS4, aS5, aS6, aS7, aS8, aS9, aS14, aS18, aS19, aS20, aL10, aL21, aL22, hta, q_isDigit hzb]
          rw [if_pos (by rw [if_neg (fun z => hz (Or.inr z))])]
        rw [e312]
        have fwrong : ∀ (lt gd : Int32) (x : Option Value), pm_ev 92 334 [some (.ref 200), some (.int (nI (c s))), some (.int lt), some (.int gd), x] [.ref 200] (pm_Mw w (ab_S s0 s2 (nI t) (nI r) (nI s) s6 (tz_n c s (r - s)) s8 s9 s14 s18 s19 s20) (ab_Lg (tz_w c s (r - s)) l21 l22) TT R RD SN wt er rk) = some (none, (pm_Mw w (ab_S s0 s2 (nI t) (nI r) (nI s) 1 (tz_n c s (r - s)) s8 s9 s14 s18 s19 s20) (ab_Lg (tz_w c s (r - s)) l21 l22) TT R RD SN wt er rk)) := fun _ _ _ => by
          simp only [z92_334, z92_335, z92_347, z92_350, pm_kv_some, pm_kw_some, pm_k_some, pm_k_void, pm_vc_some, pm_kl_some, pp6_0, pp6_2, pp6_3, pp6_4, pp6_5, pp6_6, pp6_7, pp6_8, pp6_9, pp6_10, pp6_14, pp6_18, pp6_19, pp6_20, pp6_21, pp6_22, mw200, aS0, aS2, aS3, aS4, aS5, aS6, aS7, aS8, aS9, aS14, aS18, aS19, aS20, aL10, aL21, aL22, mu200]
        by_cases g1 : 97 ≤ c s ∧ c s ≤ 122
        · have hl : 0 < tz_nl c s (r - s) := Nat.pos_of_ne_zero fun z => tz_nl_0 (r - s) z s (Nat.le_refl _) (by omega) g1
          rw [if_pos g1, if_pos g1]
          by_cases g2 : tz_nd c s (r - s) = 0
          · rw [if_pos ⟨hl, g2⟩] at hk
            subst hk
            refine ⟨nI r, nI s, 2, tz_n c s (r - s), tz_w c s (r - s), ?_, rfl, rfl, fun _ => rfl, fun z => by omega, fun _ => rfl⟩
            rw [if_pos g2]
            simp only [z92_312, z92_313, z92_314]
            rw [if_neg (by decide)]
            simp only [z92_317, z92_318]
            rw [if_neg (by decide)]
            simp only [z92_338, z92_339]
            rw [if_neg (by decide)]
            simp only [z92_342, z92_343, z92_347, z92_350, pm_kv_some, pm_kw_some, pm_k_some, pm_k_void, pm_vc_some, pm_kl_some, pp6_0, pp6_2, pp6_3, pp6_4, pp6_5, pp6_6, pp6_7, pp6_8, pp6_9, pp6_10, pp6_14, pp6_18, pp6_19, pp6_20, pp6_21, pp6_22, mw200, aS0, aS2, aS3, aS4, aS5, aS6, aS7, aS8, aS9, aS14, aS18, aS19, aS20, aL10, aL21, aL22, mu200]
          · rw [if_neg (fun z => g2 z.2), if_neg (by omega)] at hk
            subst hk
            refine ⟨nI r, nI s, 1, tz_n c s (r - s), tz_w c s (r - s), ?_, rfl, rfl, fun z => by omega, fun z => by omega, fun z => by omega⟩
            rw [if_neg g2]
            simp only [z92_312, z92_313, z92_314]
            rw [if_pos trivial]
            exact fwrong _ _ _
        · have g1d := g.resolve_left g1
          have hd : 0 < tz_nd c s (r - s) := Nat.pos_of_ne_zero fun z => tz_nd_0 (r - s) z s (Nat.le_refl _) (by omega) g1d
          rw [if_neg g1, if_neg g1]
          rw [if_neg (fun z => by omega)] at hk
          by_cases g2 : tz_nl c s (r - s) = 0
          · rw [if_pos g2]
            by_cases g3 : tz_nd c s (r - s) ≤ 5
            · rw [if_pos ⟨g2, hd, g3⟩] at hk
              subst hk
              refine ⟨nI r, nI s, 3, tz_n c s (r - s), tz_w c s (r - s), ?_, rfl, rfl, fun _ => rfl, fun _ => ?_, fun z => by omega⟩
              · simp only [z92_312, z92_313, z92_314]
                rw [if_neg (by decide)]
                simp only [z92_317, z92_318]
                rw [if_pos trivial]
                simp only [z92_321, z92_322, z92_325, z92_326, z92_329, z92_330, z92_331, pm_kv_some, pm_kw_some, pm_k_some, pm_k_void, pm_vc_some, pm_kl_some, pg6_0, pg6_1, pg6_2, pg6_3, pg6_4, pg6_5, pg6_6, pg6_7, pg6_8, pg6_9, pg6_10, pg6_11, pg6_12, pg6_13, pg6_14, pg6_15, pg6_16, pg6_17, pg6_18, pg6_19, pg6_20, pg6_21, pg6_22, mw200, aS0, aS2, aS3, aS4, aS5, aS6, aS7, aS8, aS9, aS14, aS18, aS19, aS20, aL10, aL21, aL22, hsub]
                rw [if_neg (show ¬ 5 < nI (r - s) from nI_nlt (a := 5) (by omega) (by omega))]
                simp only [z92_338, z92_339]
                rw [if_pos trivial]
                simp only [z92_346, z92_347, z92_350, pm_kv_some, pm_kw_some, pm_k_some, pm_k_void, pm_vc_some, pm_kl_some, pp6_0, pp6_2, pp6_3, pp6_4, pp6_5, pp6_6, pp6_7, pp6_8, pp6_9, pp6_10, pp6_14, pp6_18, pp6_19, pp6_20, pp6_21, pp6_22, mw200, aS0, aS2, aS3, aS4, aS5, aS6, aS7, aS8, aS9, aS14, aS18, aS19, aS20, aL10, aL21, aL22, mu200]
              · exact (tz_v_n (r - s) (by omega) (fun j h1 h2 => tz_nl_0 (r - s) g2 j h1 h2)).symm
            · rw [if_neg (fun z => g3 z.2.2)] at hk
              subst hk
              refine ⟨nI r, nI s, 1, tz_n c s (r - s), tz_w c s (r - s), ?_, rfl, rfl, fun z => by omega, fun z => by omega, fun z => by omega⟩
              simp only [z92_312, z92_313, z92_314]
              rw [if_neg (by decide)]
              simp only [z92_317, z92_318]
              rw [if_pos trivial]
              simp only [z92_321, z92_322, z92_325, z92_326, z92_329, z92_330, z92_331, pm_kv_some, pm_kw_some, pm_k_some, pm_k_void, pm_vc_some, pm_kl_some, pg6_0, pg6_1, pg6_2, pg6_3, pg6_4, pg6_5, pg6_6, pg6_7, pg6_8, pg6_9, pg6_10, pg6_11, pg6_12, pg6_13, pg6_14, pg6_15, pg6_16, pg6_17, pg6_18, pg6_19, pg6_20, pg6_21, pg6_22, mw200, aS0, aS2, aS3, aS4, aS5, aS6, aS7, aS8, aS9, aS14, aS18, aS19, aS20, aL10, aL21, aL22, hsub]
              rw [if_pos (show 5 < nI (r - s) from nI_lt (a := 5) (by omega) (by omega))]
              exact fwrong _ _ _
          · rw [if_neg (fun z => g2 z.1)] at hk
            subst hk
            refine ⟨nI r, nI s, 1, tz_n c s (r - s), tz_w c s (r - s), ?_, rfl, rfl, fun z => by omega, fun z => by omega, fun z => by omega⟩
            rw [if_neg g2]
            simp only [z92_312, z92_313, z92_314]
            rw [if_pos trivial]
            exact fwrong _ _ _
      · have hrs : r = s := Classical.byContradiction fun z => g (hld s (Nat.le_refl _) (by omega))
        subst hrs
        have z1 : tz_nl c r (r - r) = 0 := by rw [Nat.sub_self]; rfl
        have z2 : tz_nd c r (r - r) = 0 := by rw [Nat.sub_self]; rfl
        rw [z1, z2, if_neg (by omega), if_neg (by omega)] at hk
        subst hk
        refine ⟨nI (r + 1), nI r, 1, s7, l10, ?_, rfl, rfl, fun z => by omega, fun z => by omega, fun z => by omega⟩
        rw [if_neg g]
        simp only [z92_134, z92_135, z92_136, z92_138]
        rw [if_neg (show ¬ nI (c r) = 59 from fun z => h59 ((nI_eq (b := 59) (by omega) (by omega)).mp z))]
        simp only [z92_145, z92_146, z92_149, z92_150, z92_151, z92_154, z92_155, z92_156, z92_159, pm_kv_some, pm_kw_some, pm_k_some, pm_k_void, pm_vc_some, pm_kl_some, pg6_0, pg6_1, pg6_2, pg6_3, pg6_4, pg6_5, pg6_6, pg6_7, pg6_8, pg6_9, pg6_10, pg6_11, pg6_12, pg6_13, pg6_14, pg6_15, pg6_16, pg6_17, pg6_18, pg6_19, pg6_20, pg6_21, pg6_22, pp6_0, pp6_2, pp6_3, pp6_4, pp6_5, pp6_6, pp6_7, pp6_8, pp6_9, pp6_10, pp6_14, pp6_18, pp6_19, pp6_20, pp6_21, pp6_22, mw200, aS0, aS2, aS3, aS4, aS5, aS6, aS7, aS8, aS9, aS14, aS18, aS19, aS20, aL10, aL21, aL22, mu200, nI_1]
end PMT8
