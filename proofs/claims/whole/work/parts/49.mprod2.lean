/-! LINES, the model's part: quarters, events, grants -/
section PMQ2
variable {w : pm_H} {TT R RD SN : Nat → Int32} {wt er : Nat → Int64} {rk : Nat → Int32} {s0 s2 s3 s4 s5 s6 s7 s8 s9 s14 s18 s19 s20 : Int32} {l10 l21 l22 : Int64} {c : Nat → Nat} {t p j n N : Nat} {Y : Nat → Nat → Int32}
def Rv_qt (RD : Nat → Int32) (q : Nat) (v u : Int32) : Nat → Int32 := upd (upd RD (1 + 2 * q) v) (2 + 2 * q) u
theorem upd_same {f : Nat → Int32} {a : Nat} {x y : Int32} : upd (upd f a x) a y = upd f a y := by
  funext k
  by_cases e : k = a
  · subst e; rw [pk_us, pk_us]
  · rw [pk_un e, pk_un e, pk_un e]
/-- behind 'profit' (g 1) or 'loss' (g 0), the word passed -/
theorem m_quarterP (hT : tz_T TT c t) (ht : t ≤ 740) (hp : p ≤ t) (hc : tz_cur c t p s4 s5 s6 s7 l10) {q : Nat} (hq : q < 4) {g : Int32} :
    (∃ k s, tz_qQ c t p = .inl (k, s) ∧ ∃ (RD' : Nat → Int32) (s4' s5' s6' s7' : Int32) (l10' : Int64), pm_ev 104 77 [some (.ref 200), some (.int (nI q)), some (.int g)] [] (pm_Mw w (ab_S s0 s2 (nI t) s4 s5 s6 s7 s8 s9 s14 s18 s19 s20) (ab_Lg l10 l21 l22) TT R RD SN wt er rk) = some (some (.int 0), (pm_Mw w (ab_S s0 s2 (nI t) s4' s5' s6' s7' (nI k) (nI s) s14 s18 s19 s20) (ab_Lg l10' l21 l22) TT R RD' SN wt er rk))) ∨
    (∃ v u r, tz_qQ c t p = .inr (v, u, r) ∧ r ≤ t ∧ ∃ (s4' s5' s6' s7' : Int32) (l10' : Int64), pm_ev 104 77 [some (.ref 200), some (.int (nI q)), some (.int g)] [] (pm_Mw w (ab_S s0 s2 (nI t) s4 s5 s6 s7 s8 s9 s14 s18 s19 s20) (ab_Lg l10 l21 l22) TT R RD SN wt er rk) = some (some (.int 1), (pm_Mw w (ab_S s0 s2 (nI t) s4' s5' s6' s7' s8 s9 s14 s18 s19 s20) (ab_Lg l10' l21 l22) TT R (Rv_qt RD q (if g = 0 then -v else v) u) SN wt er rk)) ∧ tz_cur c t r s4' s5' s6' s7' l10') := by
  have e1 : (1 : Int32) + 2 * nI q = nI (1 + 2 * q) := by rw [show (1 : Int32) = nI 1 from rfl, show (2 : Int32) = nI 2 from rfl, pk_mul, nI_add]
  have e2 : nI (1 + 2 * q) + 1 = nI (2 + 2 * q) := by rw [nI_1]; congr 1; omega
  unfold tz_qQ
  rcases m_told (w := w) (TT := TT) (R := R) (RD := RD) (SN := SN) (wt := wt) (er := er) (rk := rk) (s0 := s0) (s2 := s2) (s8 := s8) (s9 := s9) (s14 := s14) (s18 := s18) (s19 := s19) (s20 := s20) (l21 := l21) (l22 := l22) (a := 1 + 2 * q) (lo := 0) (hi := 99999) hT ht hp hc (by omega) with ⟨k, s, e3, h3⟩ | ⟨v, r3, e3, hr3, v1, v2, b4, b5, b6, b7, b10, h3, h4⟩
  · left
    refine ⟨k, s, by rw [e3], RD, s4, s5, s6, s7, l10, ?_⟩
    simp only [z104_77, z104_78, z104_79, z104_80, z104_81, z104_82, z104_83, z104_84, z104_86, z104_89, pm_kv_some, pm_kw_some, pm_k_some, pm_k_void, pm_vc_some, pm_kl_some, mw200, e1, h3]
    rw [if_pos trivial]
    simp only [z104_92, z104_93, pm_zr0]
  · simp only [e3]
    have st : pm_ev 104 77 [some (.ref 200), some (.int (nI q)), some (.int g)] [] (pm_Mw w (ab_S s0 s2 (nI t) s4 s5 s6 s7 s8 s9 s14 s18 s19 s20) (ab_Lg l10 l21 l22) TT R RD SN wt er rk) = pm_ev 104 119 [some (.ref 200), some (.int (nI q)), some (.int g)] [] (pm_Mw w (ab_S s0 s2 (nI t) b4 b5 b6 b7 s8 s9 s14 s18 s19 s20) (ab_Lg b10 l21 l22) TT R (upd RD (1 + 2 * q) (if g = 0 then -v else v)) SN wt er rk) := by
      simp only [z104_77, z104_78, z104_79, z104_80, z104_81, z104_82, z104_83, z104_84, z104_86, z104_89, pm_kv_some, pm_kw_some, pm_k_some, pm_k_void, pm_vc_some, pm_kl_some, mw200, e1, h3]
      rw [if_neg (by decide)]
      simp only [z104_94, z104_95]
      by_cases eg : g = 0
      · rw [if_pos eg, if_pos eg]
        simp only [z104_98, z104_99, z104_102, z104_103, z104_104, z104_105, z104_106, z104_107, z104_108, z104_111, z104_112, z104_113, z104_114, z104_115, z104_116, z104_117, z104_118, pm_kv_some, pm_kw_some, pm_k_some, pm_k_void, pm_vc_some, pm_kl_some, pg6_0, pg6_1, pg6_2, pg6_3, pg6_4, pg6_5, pg6_6, pg6_7, pg6_8, pg6_9, pg6_10, pg6_11, pg6_12, pg6_13, pg6_14, pg6_15, pg6_16, pg6_17, pg6_18, pg6_19, pg6_20, pg6_21, pg6_22, mw200, mw213, aS0, aS2, aS3, aS4, aS5, aS6, aS7, aS8, aS9, aS14, aS18, aS19, aS20, aL10, aL21, aL22, e1, pm_ia_in (vp_in_nI (show 1 + 2 * q < 103 by omega) (by omega)), pm_is_in (vp_in_nI (show 1 + 2 * q < 103 by omega) (by omega)), nI_clamp (show 1 + 2 * q < 2 ^ 31 by omega), mu213, pk_us, upd_same]
      · rw [if_neg eg, if_neg eg]
    rw [st]
    generalize hv' : (if g = 0 then -v else v) = v'
    obtain ⟨p1, p2⟩ := m_isPrice (w := w) (TT := TT) (R := R) (RD := upd RD (1 + 2 * q) v') (SN := SN) (wt := wt) (er := er) (rk := rk) (s0 := s0) (s2 := s2) (s3 := nI t) (s8 := s8) (s9 := s9) (s14 := s14) (s18 := s18) (s19 := s19) (s20 := s20) (l21 := l21) (l22 := l22) hr3 h4
    cases e5 : tz_word c t 4 r3 with
    | inl f =>
      left
      obtain ⟨k, s⟩ := f
      obtain ⟨i1, i2, i3⟩ := tz_word_f e5
      refine ⟨k, s, rfl, upd RD (1 + 2 * q) v', b4, b5, b6, b7, b10, ?_⟩
      simp only [z104_119, z104_120, z104_123, pm_kv_some, pm_kw_some, pm_k_some, pm_k_void, pm_vc_some, pm_kl_some, mw200, p2 i1]
      rw [if_pos trivial]
      simp only [z104_126, z104_127, z104_128, z104_131, pm_kv_some, pm_kw_some, pm_k_some, pm_k_void, pm_vc_some, pm_kl_some, mw200, m_bad1 h4, pm_zr0]
      rw [i2, i3]; rfl
    | inr r4 =>
      simp only []
      have hr4 := tz_word_le hr3 e5
      obtain ⟨a4, a5, a6, a7, a10, h5, h6⟩ := m_goW (w := w) (TT := TT) (R := R) (RD := upd RD (1 + 2 * q) v') (SN := SN) (wt := wt) (er := er) (rk := rk) (s0 := s0) (s2 := s2) (s8 := s8) (s9 := s9) (s14 := s14) (s18 := s18) (s19 := s19) (s20 := s20) (l21 := l21) (l22 := l22) hT ht hr3 h4 e5
      have st2 : pm_ev 104 119 [some (.ref 200), some (.int (nI q)), some (.int g)] [] (pm_Mw w (ab_S s0 s2 (nI t) b4 b5 b6 b7 s8 s9 s14 s18 s19 s20) (ab_Lg b10 l21 l22) TT R (upd RD (1 + 2 * q) v') SN wt er rk) = pm_ev 104 136 [some (.ref 200), some (.int (nI q)), some (.int g)] [] (pm_Mw w (ab_S s0 s2 (nI t) a4 a5 a6 a7 s8 s9 s14 s18 s19 s20) (ab_Lg a10 l21 l22) TT R (upd RD (1 + 2 * q) v') SN wt er rk) := by
        simp only [z104_119, z104_120, z104_123, pm_kv_some, pm_kw_some, pm_k_some, pm_k_void, pm_vc_some, pm_kl_some, mw200, p1 (tz_word_t e5).1]
        rw [if_neg (by decide)]
        simp only [z104_132, z104_133, pm_kv_some, pm_kw_some, pm_k_some, pm_k_void, pm_vc_some, pm_kl_some, mw200, h5]
      rw [st2]
      rcases m_told (w := w) (TT := TT) (R := R) (RD := upd RD (1 + 2 * q) v') (SN := SN) (wt := wt) (er := er) (rk := rk) (s0 := s0) (s2 := s2) (s8 := s8) (s9 := s9) (s14 := s14) (s18 := s18) (s19 := s19) (s20 := s20) (l21 := l21) (l22 := l22) (a := 2 + 2 * q) (lo := 1) (hi := 9999) hT ht hr4 h6 (by omega) with ⟨k, s, e7, h7⟩ | ⟨u, r5, e7, hr5, u1, u2, d4, d5, d6, d7, d10, h7, h8⟩
      · left
        refine ⟨k, s, by rw [e7], upd RD (1 + 2 * q) v', a4, a5, a6, a7, a10, ?_⟩
        simp only [z104_136, z104_137, z104_138, z104_139, z104_140, z104_141, z104_142, z104_143, z104_144, z104_145, z104_148, z104_151, pm_kv_some, pm_kw_some, pm_k_some, pm_k_void, pm_vc_some, pm_kl_some, mw200, e1, e2, h7, pm_zr0]
      · right
        refine ⟨v, u, r5, by rw [e7], hr5, d4, d5, d6, d7, d10, ?_, h8⟩
        simp only [z104_136, z104_137, z104_138, z104_139, z104_140, z104_141, z104_142, z104_143, z104_144, z104_145, z104_148, z104_151, pm_kv_some, pm_kw_some, pm_k_some, pm_k_void, pm_vc_some, pm_kl_some, mw200, e1, e2, h7, pm_zr1]
        rw [hv']; rfl
theorem m_readQuarter (hT : tz_T TT c t) (ht : t ≤ 740) (hp : p ≤ t) (hc : tz_cur c t p s4 s5 s6 s7 l10) {q : Nat} (hq : q < 4) :
    (∃ k s, tz_quQ c t p = .inl (k, s) ∧ ∃ (RD' : Nat → Int32) (s4' s5' s6' s7' : Int32) (l10' : Int64), pm_call 104 [.ref 200, .int (nI q)] (pm_Mw w (ab_S s0 s2 (nI t) s4 s5 s6 s7 s8 s9 s14 s18 s19 s20) (ab_Lg l10 l21 l22) TT R RD SN wt er rk) = some (some (.int 0), (pm_Mw w (ab_S s0 s2 (nI t) s4' s5' s6' s7' (nI k) (nI s) s14 s18 s19 s20) (ab_Lg l10' l21 l22) TT R RD' SN wt er rk))) ∨
    (∃ v u r, tz_quQ c t p = .inr (v, u, r) ∧ r ≤ t ∧ ∃ (s4' s5' s6' s7' : Int32) (l10' : Int64), pm_call 104 [.ref 200, .int (nI q)] (pm_Mw w (ab_S s0 s2 (nI t) s4 s5 s6 s7 s8 s9 s14 s18 s19 s20) (ab_Lg l10 l21 l22) TT R RD SN wt er rk) = some (some (.int 1), (pm_Mw w (ab_S s0 s2 (nI t) s4' s5' s6' s7' s8 s9 s14 s18 s19 s20) (ab_Lg l10' l21 l22) TT R (Rv_qt RD q v u) SN wt er rk)) ∧ tz_cur c t r s4' s5' s6' s7' l10') := by
  obtain ⟨g1, g2⟩ := m_isWord (w := w) (TT := TT) (R := R) (RD := RD) (SN := SN) (wt := wt) (er := er) (rk := rk) (s0 := s0) (s2 := s2) (s3 := nI t) (s8 := s8) (s9 := s9) (s14 := s14) (s18 := s18) (s19 := s19) (s20 := s20) (l21 := l21) (l22 := l22) (j := 1) hp (by omega) hc
  unfold tz_quQ
  cases e : tz_word c t 1 p with
  | inl f =>
    left
    obtain ⟨k, s⟩ := f
    obtain ⟨i1, i2, i3⟩ := tz_word_f e
    refine ⟨k, s, rfl, RD, s4, s5, s6, s7, l10, ?_⟩
    simp only [pe104, z104_0, z104_1, z104_4, z104_6, z104_8, z104_10, z104_12, z104_14, z104_16, z104_19, z104_20, z104_23, z104_24, z104_27, pm_kv_some, pm_kw_some, pm_k_some, pm_k_void, pm_vc_some, pm_kl_some, mw200, q_quarte, q_quarter7, g2 i1]
    rw [if_pos trivial]
    simp only [z104_30, z104_31, z104_32, z104_35, pm_kv_some, pm_kw_some, pm_k_some, pm_k_void, pm_vc_some, pm_kl_some, mw200, m_bad1 hc, pm_zr0]
    rw [i2, i3]; rfl
  | inr r1 =>
    simp only []
    have hr1 := tz_word_le hp e
    obtain ⟨a4, a5, a6, a7, a10, h1, h2⟩ := m_goW (w := w) (TT := TT) (R := R) (RD := RD) (SN := SN) (wt := wt) (er := er) (rk := rk) (s0 := s0) (s2 := s2) (s8 := s8) (s9 := s9) (s14 := s14) (s18 := s18) (s19 := s19) (s20 := s20) (l21 := l21) (l22 := l22) hT ht hp hc e
    obtain ⟨f1, f2⟩ := m_isProfit (w := w) (TT := TT) (R := R) (RD := RD) (SN := SN) (wt := wt) (er := er) (rk := rk) (s0 := s0) (s2 := s2) (s3 := nI t) (s8 := s8) (s9 := s9) (s14 := s14) (s18 := s18) (s19 := s19) (s20 := s20) (l21 := l21) (l22 := l22) hr1 h2
    obtain ⟨l1, l2⟩ := m_isWord (w := w) (TT := TT) (R := R) (RD := RD) (SN := SN) (wt := wt) (er := er) (rk := rk) (s0 := s0) (s2 := s2) (s3 := nI t) (s8 := s8) (s9 := s9) (s14 := s14) (s18 := s18) (s19 := s19) (s20 := s20) (l21 := l21) (l22 := l22) (j := 2) hr1 (by omega) h2
    have st : ∀ X : Int32, pm_call 105 [.ref 200] (pm_Mw w (ab_S s0 s2 (nI t) a4 a5 a6 a7 s8 s9 s14 s18 s19 s20) (ab_Lg a10 l21 l22) TT R RD SN wt er rk) = some (some (.int X), (pm_Mw w (ab_S s0 s2 (nI t) a4 a5 a6 a7 s8 s9 s14 s18 s19 s20) (ab_Lg a10 l21 l22) TT R RD SN wt er rk)) → pm_call 104 [.ref 200, .int (nI q)] (pm_Mw w (ab_S s0 s2 (nI t) s4 s5 s6 s7 s8 s9 s14 s18 s19 s20) (ab_Lg l10 l21 l22) TT R RD SN wt er rk) = pm_ev 104 45 [some (.ref 200), some (.int (nI q)), some (.int X)] [] (pm_Mw w (ab_S s0 s2 (nI t) a4 a5 a6 a7 s8 s9 s14 s18 s19 s20) (ab_Lg a10 l21 l22) TT R RD SN wt er rk) := by
      intro X hX
      simp only [pe104, z104_0, z104_1, z104_4, z104_6, z104_8, z104_10, z104_12, z104_14, z104_16, z104_19, z104_20, z104_23, z104_24, z104_27, pm_kv_some, pm_kw_some, pm_k_some, pm_k_void, pm_vc_some, pm_kl_some, mw200, q_quarte, q_quarter7, g1 (tz_word_t e).1]
      rw [if_neg (by decide)]
      simp only [z104_36, z104_37, z104_40, z104_41, z104_44, pm_kv_some, pm_kw_some, pm_k_some, pm_k_void, pm_vc_some, pm_kl_some, mw200, h1, hX]
    have fin : ∀ (g : Int32) (r2 : Nat) (j : Nat) (X : Option (Option Value × pm_H)), tz_word c t j r1 = .inr r2 → X = pm_ev 104 73 [some (.ref 200), some (.int (nI q)), some (.int g)] [] (pm_Mw w (ab_S s0 s2 (nI t) a4 a5 a6 a7 s8 s9 s14 s18 s19 s20) (ab_Lg a10 l21 l22) TT R RD SN wt er rk) →
      (∃ k s, tz_qQ c t r2 = .inl (k, s) ∧ ∃ (RD' : Nat → Int32) (s4' s5' s6' s7' : Int32) (l10' : Int64), X = some (some (.int 0), (pm_Mw w (ab_S s0 s2 (nI t) s4' s5' s6' s7' (nI k) (nI s) s14 s18 s19 s20) (ab_Lg l10' l21 l22) TT R RD' SN wt er rk))) ∨
      (∃ v u r, tz_qQ c t r2 = .inr (v, u, r) ∧ r ≤ t ∧ ∃ (s4' s5' s6' s7' : Int32) (l10' : Int64), X = some (some (.int 1), (pm_Mw w (ab_S s0 s2 (nI t) s4' s5' s6' s7' s8 s9 s14 s18 s19 s20) (ab_Lg l10' l21 l22) TT R (Rv_qt RD q (if g = 0 then -v else v) u) SN wt er rk)) ∧ tz_cur c t r s4' s5' s6' s7' l10') := by
      intro g r2 j X hj hX
      have hr2 := tz_word_le hr1 hj
      obtain ⟨d4, d5, d6, d7, d10, h5, h6⟩ := m_goW (w := w) (TT := TT) (R := R) (RD := RD) (SN := SN) (wt := wt) (er := er) (rk := rk) (s0 := s0) (s2 := s2) (s8 := s8) (s9 := s9) (s14 := s14) (s18 := s18) (s19 := s19) (s20 := s20) (l21 := l21) (l22 := l22) hT ht hr1 h2 hj
      have hX2 : X = pm_ev 104 77 [some (.ref 200), some (.int (nI q)), some (.int g)] [] (pm_Mw w (ab_S s0 s2 (nI t) d4 d5 d6 d7 s8 s9 s14 s18 s19 s20) (ab_Lg d10 l21 l22) TT R RD SN wt er rk) := by
        rw [hX]
        simp only [z104_73, z104_74, pm_kv_some, pm_kw_some, pm_k_some, pm_k_void, pm_vc_some, pm_kl_some, mw200, h5]
      rw [hX2]
      exact m_quarterP hT ht hr2 h6 hq
    cases e2 : tz_word c t 2 r1 with
    | inr r2 =>
      simp only []
      have il := (tz_word_t e2).1
      have nf : ¬ tz_isw c t r1 3 := fun z => absurd (tz_isw_2 il z) (by decide)
      have hX : pm_call 104 [.ref 200, .int (nI q)] (pm_Mw w (ab_S s0 s2 (nI t) s4 s5 s6 s7 s8 s9 s14 s18 s19 s20) (ab_Lg l10 l21 l22) TT R RD SN wt er rk) = pm_ev 104 73 [some (.ref 200), some (.int (nI q)), some (.int 0)] [] (pm_Mw w (ab_S s0 s2 (nI t) a4 a5 a6 a7 s8 s9 s14 s18 s19 s20) (ab_Lg a10 l21 l22) TT R RD SN wt er rk) := by
        rw [st 0 (f2 nf)]
        simp only [z104_45, z104_46]
        rw [if_pos trivial]
        simp only [z104_49, z104_50, z104_52, z104_54, z104_56, z104_58, z104_61, z104_64, pm_kv_some, pm_kw_some, pm_k_some, pm_k_void, pm_vc_some, pm_kl_some, mw200, q_loss, l1 il]
        rw [if_neg (by decide)]
      rcases fin 0 r2 2 _ e2 hX with ⟨k, s, e3, RD', x4, x5, x6, x7, x10, h3⟩ | ⟨v, u, r, e3, hr, x4, x5, x6, x7, x10, h3, h4⟩
      · exact Or.inl ⟨k, s, by rw [e3], RD', x4, x5, x6, x7, x10, h3⟩
      · exact Or.inr ⟨-v, u, r, by rw [e3], hr, x4, x5, x6, x7, x10, h3, h4⟩
    | inl f =>
      simp only []
      have il := (tz_word_f (k := f.1) (s := f.2) e2).1
      cases e4 : tz_word c t 3 r1 with
      | inl f4 =>
        left
        obtain ⟨k, s⟩ := f4
        obtain ⟨i1, i2, i3⟩ := tz_word_f e4
        refine ⟨k, s, rfl, RD, a4, a5, a6, a7, a10, ?_⟩
        rw [st 0 (f2 i1)]
        simp only [z104_45, z104_46]
        rw [if_pos trivial]
        simp only [z104_49, z104_50, z104_52, z104_54, z104_56, z104_58, z104_61, z104_64, pm_kv_some, pm_kw_some, pm_k_some, pm_k_void, pm_vc_some, pm_kl_some, mw200, q_loss, l2 il]
        rw [if_pos trivial]
        simp only [z104_67, z104_68, z104_69, z104_72, pm_kv_some, pm_kw_some, pm_k_some, pm_k_void, pm_vc_some, pm_kl_some, mw200, m_bad1 h2, pm_zr0]
        rw [i2, i3]; rfl
      | inr r2 =>
        simp only []
        have hX : pm_call 104 [.ref 200, .int (nI q)] (pm_Mw w (ab_S s0 s2 (nI t) s4 s5 s6 s7 s8 s9 s14 s18 s19 s20) (ab_Lg l10 l21 l22) TT R RD SN wt er rk) = pm_ev 104 73 [some (.ref 200), some (.int (nI q)), some (.int 1)] [] (pm_Mw w (ab_S s0 s2 (nI t) a4 a5 a6 a7 s8 s9 s14 s18 s19 s20) (ab_Lg a10 l21 l22) TT R RD SN wt er rk) := by
          rw [st 1 (f1 (tz_word_t e4).1)]
          simp only [z104_45, z104_46]
          rw [if_neg (by decide)]
        rcases fin 1 r2 3 _ e4 hX with ⟨k, s, e3, RD', x4, x5, x6, x7, x10, h3⟩ | ⟨v, u, r, e3, hr, x4, x5, x6, x7, x10, h3, h4⟩
        · exact Or.inl ⟨k, s, e3, RD', x4, x5, x6, x7, x10, h3⟩
        · exact Or.inr ⟨v, u, r, e3, hr, x4, x5, x6, x7, x10, h3, h4⟩
theorem Yv_dead {p v} (h : (10 + 3 * n ≤ p ∧ p < 70) ∨ 71 + 4 * N ≤ p) (h20 : n ≤ 20) (h8 : N ≤ 8) : ab_le (Yv RD) (Yv (upd RD p v)) n N := by
  intro j k hl
  unfold ab_lv at hl
  have : j = 0 ∨ j = 1 ∨ j = 2 ∨ j = 3 ∨ j = 4 ∨ j = 5 ∨ j = 6 ∨ j = 7 ∨ j = 8 ∨ j = 9 ∨ j = 10 ∨ j = 11 := by omega
  have key : ∀ i : Nat, i ≠ p → RD i = upd RD p v i := fun i hi => (pk_un hi).symm
  rcases this with e | e | e | e | e | e | e | e | e | e | e | e <;> subst e <;> exact key _ (by omega)
end PMQ2
