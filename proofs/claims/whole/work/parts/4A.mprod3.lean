/-! LINES, the model's part: events and grants -/
def tz_evQ (c : Nat → Nat) (t : Nat) (ld lo mo : Int32) (p : Nat) : (Nat × Nat) ⊕ (Int32 × Int32 × Nat) := match tz_num c t ld 359 p with
  | .inl f => .inl f
  | .inr (d, r1) => match tz_num c t lo mo r1 with
    | .inl f => .inl f
    | .inr (u, r2) => .inr (d, u, r2)
def tz_inQ (c : Nat → Nat) (t : Nat) (so d u : Int32) (p : Nat) : (Nat × Nat) ⊕ (Int32 × Int32 × Int32 × Int32 × Nat) := match tz_num c t (if so = 0 then 1 else 0) (if so = 0 then 9999 else 99999) p with
  | .inl f => .inl f
  | .inr (k, r) => .inr (so, d, u, k, r)
noncomputable def tz_igQ (c : Nat → Nat) (t : Nat) (s : Int32) (p : Nat) : (Nat × Nat) ⊕ (Int32 × Int32 × Int32 × Int32 × Nat) := match tz_num c t 0 359 p with
  | .inl f => .inl f
  | .inr (d, r1) => match tz_num c t 1 9999 r1 with
    | .inl f => .inl f
    | .inr (u, r2) => if s = 2 then (match tz_word c t 4 r2 with
      | .inr r3 => tz_inQ c t 3 d u r3
      | .inl _ => match tz_word c t 3 r2 with
        | .inl f => .inl f
        | .inr r3 => tz_inQ c t 2 d u r3) else tz_inQ c t s d u r2
noncomputable def tz_evOQ (c : Nat → Nat) (t : Nat) (Y : Nat → Nat → Int32) (n N : Nat) (s : Int32) (st r : Nat) : (Nat × Nat) ⊕ ((Nat → Nat → Int32) × Nat × Nat × Nat) := @ite _ (ab_room Y n s) (Classical.propDecidable _) (match tz_evQ c t (ab_ld Y n) (if s = 2 then 2 else 1) (ab_mo Y n s) r with
  | .inl f => .inl f
  | .inr (d, u, r') => .inr (ab_ev Y n s d u, n + 1, N, r')) (.inl (3, st))
noncomputable def tz_inOQ (c : Nat → Nat) (t : Nat) (Y : Nat → Nat → Int32) (n N : Nat) (s : Int32) (st r : Nat) : (Nat × Nat) ⊕ ((Nat → Nat → Int32) × Nat × Nat × Nat) := if N < 8 then (match tz_igQ c t s r with
  | .inl f => .inl f
  | .inr (so, d, u, k, r') => .inr (ab_in Y N so d u k, n, N + 1, r')) else .inl (3, st)
noncomputable def tz_otQ (c : Nat → Nat) (t : Nat) (Y : Nat → Nat → Int32) (n N p : Nat) : (Nat × Nat) ⊕ ((Nat → Nat → Int32) × Nat × Nat × Nat) := match tz_word c t 5 p with
  | .inr r => tz_evOQ c t Y n N 0 (tz_t c t p).2.1 r
  | .inl _ => match tz_word c t 6 p with
    | .inr r => tz_evOQ c t Y n N 1 (tz_t c t p).2.1 r
    | .inl _ => match tz_word c t 7 p with
      | .inr r => tz_evOQ c t Y n N 2 (tz_t c t p).2.1 r
      | .inl _ => match tz_word c t 8 p with
        | .inr r => tz_inOQ c t Y n N 0 (tz_t c t p).2.1 r
        | .inl _ => match tz_word c t 9 p with
          | .inr r => tz_inOQ c t Y n N 1 (tz_t c t p).2.1 r
          | .inl _ => match tz_word c t 10 p with
            | .inr r => tz_inOQ c t Y n N 2 (tz_t c t p).2.1 r
            | .inl f => .inl f
def tz_r4 (x : (Nat × Nat) ⊕ ((Nat → Nat → Int32) × Nat × Nat × Nat)) : (Nat × Nat) ⊕ (((Nat → Nat → Int32) × Nat × Nat) × Nat) := match x with
  | .inl f => .inl f
  | .inr (Y, n, N, r) => .inr ((Y, n, N), r)
section TZ9
variable {c : Nat → Nat} {t : Nat} {Y : Nat → Nat → Int32} {n N : Nat}
theorem tz_evO_Q {s : Int32} {st r : Nat} : tz_r4 (tz_evO c t Y n N s st r) = tz_then c t (tz_r4 (tz_evOQ c t Y n N s st r)) := by
  unfold tz_evO tz_evOQ
  by_cases h : ab_room Y n s
  · rw [if_pos h, if_pos h]
    unfold tz_evP tz_evQ
    cases tz_num c t (ab_ld Y n) 359 r with
    | inl f => rfl
    | inr x =>
      obtain ⟨d, r1⟩ := x
      simp only []
      cases tz_num c t (if s = 2 then 2 else 1) (ab_mo Y n s) r1 with
      | inl f => rfl
      | inr y =>
        obtain ⟨u, r2⟩ := y
        simp only [tz_r4, tz_then]
        cases tz_semi c t r2 with
        | inl f => rfl
        | inr r3 => rfl
  · rw [if_neg h, if_neg h]; rfl
def tz_r5 (x : (Nat × Nat) ⊕ (Int32 × Int32 × Int32 × Int32 × Nat)) : (Nat × Nat) ⊕ ((Int32 × Int32 × Int32 × Int32) × Nat) := match x with
  | .inl f => .inl f
  | .inr (a, b, d, e, r) => .inr ((a, b, d, e), r)
theorem tz_inP_Q {so d u : Int32} {p : Nat} : tz_r5 (tz_inP c t so d u p) = tz_then c t (tz_r5 (tz_inQ c t so d u p)) := by
  unfold tz_inP tz_inQ tz_tmP
  cases tz_num c t (if so = 0 then 1 else 0) (if so = 0 then 9999 else 99999) p with
  | inl f => rfl
  | inr x =>
    obtain ⟨k, r⟩ := x
    simp only [tz_r5, tz_then]
    cases tz_semi c t r with
    | inl f => rfl
    | inr r3 => rfl
theorem tz_igP_Q {s : Int32} {p : Nat} : tz_r5 (tz_igP c t s p) = tz_then c t (tz_r5 (tz_igQ c t s p)) := by
  unfold tz_igP tz_igQ
  cases tz_num c t 0 359 p with
  | inl f => rfl
  | inr x =>
    obtain ⟨d, r1⟩ := x
    simp only []
    cases tz_num c t 1 9999 r1 with
    | inl f => rfl
    | inr y =>
      obtain ⟨u, r2⟩ := y
      simp only []
      by_cases h : s = 2
      · rw [if_pos h, if_pos h]
        cases tz_word c t 4 r2 with
        | inr r3 => exact tz_inP_Q
        | inl f =>
          simp only []
          cases tz_word c t 3 r2 with
          | inl f => rfl
          | inr r3 => exact tz_inP_Q
      · rw [if_neg h, if_neg h]; exact tz_inP_Q
theorem tz_inO_Q {s : Int32} {st r : Nat} : tz_r4 (tz_inO c t Y n N s st r) = tz_then c t (tz_r4 (tz_inOQ c t Y n N s st r)) := by
  unfold tz_inO tz_inOQ
  by_cases h : N < 8
  · rw [if_pos h, if_pos h]
    have := tz_igP_Q (c := c) (t := t) (s := s) (p := r)
    cases e1 : tz_igP c t s r with
    | inl f =>
      cases e2 : tz_igQ c t s r with
      | inl g => rw [e1, e2] at this; simp only [tz_r5, tz_r4, tz_then] at this ⊢; injection this with this; rw [this]
      | inr y =>
        obtain ⟨so, d, u, k, r'⟩ := y
        rw [e1, e2] at this
        simp only [tz_r5, tz_r4, tz_then] at this ⊢
        cases e3 : tz_semi c t r' with
        | inl g => rw [e3] at this; simp only [] at this ⊢; injection this with this; rw [this]
        | inr g => rw [e3] at this; cases this
    | inr x =>
      obtain ⟨so, d, u, k, r'⟩ := x
      cases e2 : tz_igQ c t s r with
      | inl g => rw [e1, e2] at this; simp only [tz_r5, tz_then] at this; cases this
      | inr y =>
        obtain ⟨so2, d2, u2, k2, r2⟩ := y
        rw [e1, e2] at this
        simp only [tz_r5, tz_r4, tz_then] at this ⊢
        cases e3 : tz_semi c t r2 with
        | inl g => rw [e3] at this; cases this
        | inr g =>
          rw [e3] at this
          injection this with this
          injection this with h1 h2
          injection h1 with h3 h4
          injection h4 with h5 h6
          injection h6 with h7 h8
          subst h2; subst h3; subst h5; subst h7; subst h8; rfl
  · rw [if_neg h, if_neg h]; rfl
theorem tz_otP_Q {p : Nat} : tz_r4 (tz_otP c t Y n N p) = tz_then c t (tz_r4 (tz_otQ c t Y n N p)) := by
  unfold tz_otP tz_otQ
  cases tz_word c t 5 p with
  | inr r => exact tz_evO_Q
  | inl f =>
  simp only []
  cases tz_word c t 6 p with
  | inr r => exact tz_evO_Q
  | inl f =>
  simp only []
  cases tz_word c t 7 p with
  | inr r => exact tz_evO_Q
  | inl f =>
  simp only []
  cases tz_word c t 8 p with
  | inr r => exact tz_inO_Q
  | inl f =>
  simp only []
  cases tz_word c t 9 p with
  | inr r => exact tz_inO_Q
  | inl f =>
  simp only []
  cases tz_word c t 10 p with
  | inr r => exact tz_inO_Q
  | inl f => rfl
end TZ9
section PME
variable {w : pm_H} {TT R RD SN : Nat → Int32} {wt er : Nat → Int64} {rk : Nat → Int32} {s0 s2 s3 s4 s5 s6 s7 s8 s9 s14 s18 s19 s20 : Int32} {l10 l21 l22 : Int64} {c : Nat → Nat} {t p j n N : Nat} {Y : Nat → Nat → Int32}
theorem m_bad3 (hc : tz_cur c t p s4 s5 s6 s7 l10) (hw : tz_isw c t p j) : pm_call 102 [.ref 200, .int 3] (pm_Mw w (ab_S s0 s2 s3 s4 s5 s6 s7 s8 s9 s14 s18 s19 s20) (ab_Lg l10 l21 l22) TT R RD SN wt er rk) = some (some (.int 0), (pm_Mw w (ab_S s0 s2 s3 s4 s5 s6 s7 3 (nI (tz_t c t p).2.1) s14 s18 s19 s20) (ab_Lg l10 l21 l22) TT R RD SN wt er rk)) := by
  have e6 : s6 = 2 := by rw [hc.2.1, hw.1]; rfl
  rw [m_bad, if_neg (by rw [e6]; decide), hc.1]
theorem m_readEvent (hT : tz_T TT c t) (ht : t ≤ 740) (hp : p ≤ t) (hc : tz_cur c t p s4 s5 s6 s7 l10) (hw : ab_wf Y n N) (le : ab_le Y (Yv RD) n N) {s : Int32} {r : Nat} (hj : tz_word c t j p = .inr r) :
    (∃ k s', tz_evOQ c t Y n N s (tz_t c t p).2.1 r = .inl (k, s') ∧ ∃ (RD' : Nat → Int32) (s4' s5' s6' s7' : Int32) (l10' : Int64), pm_call 110 [.ref 200, .int s] (pm_Mw w (ab_S s0 s2 (nI t) s4 s5 s6 s7 s8 s9 s14 s18 s19 s20) (ab_Lg l10 l21 l22) TT R RD SN wt er rk) = some (some (.int 0), (pm_Mw w (ab_S s0 s2 (nI t) s4' s5' s6' s7' (nI k) (nI s') s14 s18 s19 s20) (ab_Lg l10' l21 l22) TT R RD' SN wt er rk))) ∨
    (∃ Y' n' N' r', tz_evOQ c t Y n N s (tz_t c t p).2.1 r = .inr (Y', n', N', r') ∧ r' ≤ t ∧ ∃ (RD' : Nat → Int32) (s4' s5' s6' s7' : Int32) (l10' : Int64), ab_le Y' (Yv RD') n' N' ∧ pm_call 110 [.ref 200, .int s] (pm_Mw w (ab_S s0 s2 (nI t) s4 s5 s6 s7 s8 s9 s14 s18 s19 s20) (ab_Lg l10 l21 l22) TT R RD SN wt er rk) = some (some (.int 1), (pm_Mw w (ab_S s0 s2 (nI t) s4' s5' s6' s7' s8 s9 s14 s18 s19 s20) (ab_Lg l10' l21 l22) TT R RD' SN wt er rk)) ∧ tz_cur c t r' s4' s5' s6' s7' l10') := by
  have hwR : ab_wf (Yv RD) n N := hw.congr le
  have hn : RD 9 = nI n := hwR.hn
  have h20 := hw.n20
  have h8 := hw.N8
  have hsc := ab_sc_w hwR
  have hns := hwR.ns
  have hr := tz_word_le hp hj
  have room : pm_call 110 [.ref 200, .int s] (pm_Mw w (ab_S s0 s2 (nI t) s4 s5 s6 s7 s8 s9 s14 s18 s19 s20) (ab_Lg l10 l21 l22) TT R RD SN wt er rk) = @ite _ (ab_room Y n s) (Classical.propDecidable _) (pm_ev 110 36 [some (.ref 200), some (.int s), some (.int (nI n)), none] [] (pm_Mw w (ab_S s0 s2 (nI t) s4 s5 s6 s7 s8 s9 s14 s18 s19 s20) (ab_Lg l10 l21 l22) TT R RD SN wt er rk)) (pm_ev 110 30 [some (.ref 200), some (.int s), some (.int (nI n)), none] [] (pm_Mw w (ab_S s0 s2 (nI t) s4 s5 s6 s7 s8 s9 s14 s18 s19 s20) (ab_Lg l10 l21 l22) TT R RD SN wt er rk)) := by
    simp only [pe110, z110_0, z110_1, z110_4, z110_6, z110_7, z110_8, z110_9, z110_11, pm_kv_some, pm_kw_some, pm_k_some, pm_k_void, pm_vc_some, pm_kl_some, pg6_0, pg6_1, pg6_2, pg6_3, pg6_4, pg6_5, pg6_6, pg6_7, pg6_8, pg6_9, pg6_10, pg6_11, pg6_12, pg6_13, pg6_14, pg6_15, pg6_16, pg6_17, pg6_18, pg6_19, pg6_20, pg6_21, pg6_22, mw200, mw213, pm_ia_in pm_in9, pm_cl9, hn]
    unfold ab_room
    rw [le.sc]
    by_cases c1 : nI n = 20
    · have c' : n = 20 := (nI_eq (by omega) (by omega)).mp c1
      rw [if_pos c1, if_neg (fun z => by omega)]
    · have c' : n < 20 := by
        have : ¬ n = 20 := fun z => c1 (by rw [z]; rfl)
        omega
      rw [if_neg c1]
      simp only [z110_14, z110_15, z110_16]
      by_cases c2 : s = 2
      · rw [if_pos c2]
        simp only [z110_19, z110_20, z110_23, z110_26, z110_27, pm_kv_some, pm_kw_some, pm_k_some, pm_k_void, pm_vc_some, pm_kl_some, pg6_0, pg6_1, pg6_2, pg6_3, pg6_4, pg6_5, pg6_6, pg6_7, pg6_8, pg6_9, pg6_10, pg6_11, pg6_12, pg6_13, pg6_14, pg6_15, pg6_16, pg6_17, pg6_18, pg6_19, pg6_20, pg6_21, pg6_22, mw200, q_splitsOf mw213 hn h20]
        by_cases c3 : ab_sc (Yv RD 4) n 0 0 = 3
        · rw [if_pos c3, if_neg (fun z => by have := z.2 c2; rw [c3] at this; exact absurd this (by decide))]
        · rw [if_neg c3, if_pos ⟨c', fun _ => by
            rw [i3_lt, hsc]
            have : ¬ (ab_ns (Yv RD 4) n 0 : Int) = 3 := fun z => c3 (i3_eq (by rw [hsc, z]; rfl))
            show (ab_ns (Yv RD 4) n 0 : Int) < 3
            omega⟩]
      · rw [if_neg c2, if_pos ⟨c', fun z => absurd z c2⟩]
  rw [room]
  unfold tz_evOQ
  by_cases hroom : ab_room Y n s
  · rw [if_pos hroom, if_pos hroom]
    have hn20 := hroom.1
    obtain ⟨a4, a5, a6, a7, a10, h1, h2⟩ := m_goW (w := w) (TT := TT) (R := R) (RD := RD) (SN := SN) (wt := wt) (er := er) (rk := rk) (s0 := s0) (s2 := s2) (s8 := s8) (s9 := s9) (s14 := s14) (s18 := s18) (s19 := s19) (s20 := s20) (l21 := l21) (l22 := l22) hT ht hp hc hj
    have e0 : (10 : Int32) + 3 * nI n = nI (10 + 3 * n) := by
      have := pm_tix n 0
      rw [show nI 0 = (0 : Int32) from rfl, Int32.add_zero] at this; exact this
    have e2 : nI (10 + 3 * n) + 2 = nI (10 + 3 * n + 2) := by rw [show (2 : Int32) = nI 2 from rfl, nI_add]
    have st : pm_ev 110 36 [some (.ref 200), some (.int s), some (.int (nI n)), none] [] (pm_Mw w (ab_S s0 s2 (nI t) s4 s5 s6 s7 s8 s9 s14 s18 s19 s20) (ab_Lg l10 l21 l22) TT R RD SN wt er rk) = pm_ev 110 54 [some (.ref 200), some (.int s), some (.int (nI n)), some (.int (nI (10 + 3 * n)))] [] (pm_Mw w (ab_S s0 s2 (nI t) a4 a5 a6 a7 s8 s9 s14 s18 s19 s20) (ab_Lg a10 l21 l22) TT R (upd RD (10 + 3 * n) s) SN wt er rk) := by
      simp only [z110_36, z110_37, z110_40, z110_42, z110_43, z110_44, z110_45, z110_46, z110_47, z110_48, z110_51, z110_52, z110_53, pm_kv_some, pm_kw_some, pm_k_some, pm_k_void, pm_vc_some, pm_kl_some, pg6_0, pg6_1, pg6_2, pg6_3, pg6_4, pg6_5, pg6_6, pg6_7, pg6_8, pg6_9, pg6_10, pg6_11, pg6_12, pg6_13, pg6_14, pg6_15, pg6_16, pg6_17, pg6_18, pg6_19, pg6_20, pg6_21, pg6_22, mw200, mw213, aS0, aS2, aS3, aS4, aS5, aS6, aS7, aS8, aS9, aS14, aS18, aS19, aS20, aL10, aL21, aL22, h1, e0, pm_is_in (vp_in_nI (show 10 + 3 * n < 103 by omega) (by omega)), nI_clamp (show 10 + 3 * n < 2 ^ 31 by omega), mu213]
    rw [st]
    have le1 : ab_le Y (Yv (upd RD (10 + 3 * n) s)) n N := le.trans (Yv_dead (by omega) h20 h8)
    have hn1 : upd RD (10 + 3 * n) s 9 = nI n := by rw [pk_un (by omega)]; exact hn
    have hld : (if n = 0 then (0 : Int32) else Yv (upd RD (10 + 3 * n) s) 5 (n - 1)) = ab_ld Y n := (le1.ld).symm
    unfold tz_evQ
    rcases m_told (w := w) (TT := TT) (R := R) (RD := upd RD (10 + 3 * n) s) (SN := SN) (wt := wt) (er := er) (rk := rk) (s0 := s0) (s2 := s2) (s8 := s8) (s9 := s9) (s14 := s14) (s18 := s18) (s19 := s19) (s20 := s20) (l21 := l21) (l22 := l22) (a := 10 + 3 * n + 1) (lo := ab_ld Y n) (hi := 359) hT ht hr h2 (by omega) with ⟨k, s', e3, h3⟩ | ⟨d, r1, e3, hr1, d1, d2, b4, b5, b6, b7, b10, h3, h4⟩
    · left
      refine ⟨k, s', by rw [e3], upd RD (10 + 3 * n) s, a4, a5, a6, a7, a10, ?_⟩
      simp only [z110_54, z110_55, z110_56, z110_57, z110_58, z110_59, z110_62, z110_65, z110_68, z110_71, pm_kv_some, pm_kw_some, pm_k_some, pm_k_void, pm_vc_some, pm_kl_some, pg6_0, pg6_1, pg6_2, pg6_3, pg6_4, pg6_5, pg6_6, pg6_7, pg6_8, pg6_9, pg6_10, pg6_11, pg6_12, pg6_13, pg6_14, pg6_15, pg6_16, pg6_17, pg6_18, pg6_19, pg6_20, pg6_21, pg6_22, mw200, nI_1, q_lastDay mw213 hn1 h20, hld, h3]
      rw [if_pos trivial]
      simp only [z110_102, z110_103, pm_zr0]
    · simp only [e3]
      have le2 : ab_le Y (Yv (upd (upd RD (10 + 3 * n) s) (10 + 3 * n + 1) d)) n N := le1.trans (Yv_dead (by omega) h20 h8)
      have hn2 : upd (upd RD (10 + 3 * n) s) (10 + 3 * n + 1) d 9 = nI n := by rw [pk_un (by omega)]; exact hn1
      have hmo := ab_mo_M (hw.congr le2) (s := s)
      rw [← le2.mo] at hmo
      have st2 : pm_ev 110 54 [some (.ref 200), some (.int s), some (.int (nI n)), some (.int (nI (10 + 3 * n)))] [] (pm_Mw w (ab_S s0 s2 (nI t) a4 a5 a6 a7 s8 s9 s14 s18 s19 s20) (ab_Lg a10 l21 l22) TT R (upd RD (10 + 3 * n) s) SN wt er rk) = pm_ev 110 88 [some (.ref 200), some (.int s), some (.int (nI n)), some (.int (nI (10 + 3 * n)))] [.int (if s = 2 then 2 else 1), .int (nI (10 + 3 * n + 2)), .ref 200] (pm_Mw w (ab_S s0 s2 (nI t) b4 b5 b6 b7 s8 s9 s14 s18 s19 s20) (ab_Lg b10 l21 l22) TT R (upd (upd RD (10 + 3 * n) s) (10 + 3 * n + 1) d) SN wt er rk) := by
        simp only [z110_54, z110_55, z110_56, z110_57, z110_58, z110_59, z110_62, z110_65, z110_68, z110_71, pm_kv_some, pm_kw_some, pm_k_some, pm_k_void, pm_vc_some, pm_kl_some, pg6_0, pg6_1, pg6_2, pg6_3, pg6_4, pg6_5, pg6_6, pg6_7, pg6_8, pg6_9, pg6_10, pg6_11, pg6_12, pg6_13, pg6_14, pg6_15, pg6_16, pg6_17, pg6_18, pg6_19, pg6_20, pg6_21, pg6_22, mw200, nI_1, q_lastDay mw213 hn1 h20, hld, h3]
        rw [if_neg (by decide)]
        simp only [z110_74, z110_75, z110_76, z110_77, z110_78, z110_79, z110_80, e2]
        by_cases es : s = 2
        · rw [if_pos es, if_pos es]; simp only [z110_83, z110_84]
        · rw [if_neg es, if_neg es]; simp only [z110_87]
      rw [st2]
      rcases m_told (w := w) (TT := TT) (R := R) (RD := upd (upd RD (10 + 3 * n) s) (10 + 3 * n + 1) d) (SN := SN) (wt := wt) (er := er) (rk := rk) (s0 := s0) (s2 := s2) (s8 := s8) (s9 := s9) (s14 := s14) (s18 := s18) (s19 := s19) (s20 := s20) (l21 := l21) (l22 := l22) (a := 10 + 3 * n + 2) (lo := if s = 2 then 2 else 1) (hi := ab_mo Y n s) hT ht hr1 h4 (by omega) with ⟨k, s', e5, h5⟩ | ⟨u, r2, e5, hr2, u1, u2, x4, x5, x6, x7, x10, h5, h6⟩
      · left
        refine ⟨k, s', by rw [e5], upd (upd RD (10 + 3 * n) s) (10 + 3 * n + 1) d, b4, b5, b6, b7, b10, ?_⟩
        simp only [z110_88, z110_89, z110_92, z110_93, z110_96, z110_99, pm_kv_some, pm_kw_some, pm_k_some, pm_k_void, pm_vc_some, pm_kl_some, pg6_0, pg6_1, pg6_2, pg6_3, pg6_4, pg6_5, pg6_6, pg6_7, pg6_8, pg6_9, pg6_10, pg6_11, pg6_12, pg6_13, pg6_14, pg6_15, pg6_16, pg6_17, pg6_18, pg6_19, pg6_20, pg6_21, pg6_22, mw200, q_mostOf mw213 hn2 h20, hmo, h5]
        rw [if_pos trivial]
        simp only [z110_102, z110_103, pm_zr0]
      · right
        have hn3 : upd (upd (upd RD (10 + 3 * n) s) (10 + 3 * n + 1) d) (10 + 3 * n + 2) u 9 = nI n := by rw [pk_un (by omega)]; exact hn2
        refine ⟨ab_ev Y n s d u, n + 1, N, r2, by rw [e5], hr2, Rv_ev RD n s d u, x4, x5, x6, x7, x10, ?_, ?_, h6⟩
        · refine ab_le.trans ?_ (Yv_ev hn20 h8).symm
          intro i k hl
          have hl' := hl
          unfold ab_lv at hl'
          unfold ab_ev ab_set
          by_cases i3 : i = 3
          · rw [if_pos i3, if_pos i3]
          · rw [if_neg i3, if_neg i3]
            by_cases i6 : i = 6
            · rw [if_pos i6, if_pos i6]
              by_cases ek : k = n
              · subst ek; rw [pk_us, pk_us]
              · rw [pk_un ek, pk_un ek]; exact le.h6 k (by omega)
            · rw [if_neg i6, if_neg i6]
              by_cases i5 : i = 5
              · rw [if_pos i5, if_pos i5]
                by_cases ek : k = n
                · subst ek; rw [pk_us, pk_us]
                · rw [pk_un ek, pk_un ek]; exact le.h5 k (by omega)
              · rw [if_neg i5, if_neg i5]
                by_cases i4 : i = 4
                · rw [if_pos i4, if_pos i4]
                  by_cases ek : k = n
                  · subst ek; rw [pk_us, pk_us]
                  · rw [pk_un ek, pk_un ek]; exact le.h4 k (by omega)
                · rw [if_neg i4, if_neg i4]
                  exact le i k (by unfold ab_lv; omega)
        · simp only [z110_88, z110_89, z110_92, z110_93, z110_96, z110_99, pm_kv_some, pm_kw_some, pm_k_some, pm_k_void, pm_vc_some, pm_kl_some, pg6_0, pg6_1, pg6_2, pg6_3, pg6_4, pg6_5, pg6_6, pg6_7, pg6_8, pg6_9, pg6_10, pg6_11, pg6_12, pg6_13, pg6_14, pg6_15, pg6_16, pg6_17, pg6_18, pg6_19, pg6_20, pg6_21, pg6_22, mw200, q_mostOf mw213 hn2 h20, hmo, h5]
          rw [if_neg (by decide)]
          simp only [z110_104, z110_105, z110_108, z110_110, z110_111, z110_112, z110_113, z110_114, z110_115, z110_116, pm_kv_some, pm_kw_some, pm_k_some, pm_k_void, pm_vc_some, pm_kl_some, pg6_0, pg6_1, pg6_2, pg6_3, pg6_4, pg6_5, pg6_6, pg6_7, pg6_8, pg6_9, pg6_10, pg6_11, pg6_12, pg6_13, pg6_14, pg6_15, pg6_16, pg6_17, pg6_18, pg6_19, pg6_20, pg6_21, pg6_22, mw200, mw213, aS0, aS2, aS3, aS4, aS5, aS6, aS7, aS8, aS9, aS14, aS18, aS19, aS20, aL10, aL21, aL22, pm_ia_in pm_in9, pm_is_in pm_in9, pm_cl9, hn3, nI_1, mu213, pm_zr1]
          rfl
  · rw [if_neg hroom, if_neg hroom]
    left
    refine ⟨3, (tz_t c t p).2.1, rfl, RD, s4, s5, s6, s7, l10, ?_⟩
    simp only [z110_30, z110_31, z110_32, z110_35, pm_kv_some, pm_kw_some, pm_k_some, pm_k_void, pm_vc_some, pm_kl_some, mw200, m_bad3 hc (tz_word_t hj).1, pm_zr0]
    rfl
end PME
