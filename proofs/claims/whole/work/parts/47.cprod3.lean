/-! LINES, the class's part: events, instruments -/
def tz_inP (c : Nat → Nat) (t : Nat) (so d u : Int32) (p : Nat) : (Nat × Nat) ⊕ (Int32 × Int32 × Int32 × Int32 × Nat) := match tz_tmP c t so p with
  | .inl f => .inl f
  | .inr (k, r) => .inr (so, d, u, k, r)
noncomputable def tz_igP (c : Nat → Nat) (t : Nat) (s : Int32) (p : Nat) : (Nat × Nat) ⊕ (Int32 × Int32 × Int32 × Int32 × Nat) := match tz_num c t 0 359 p with
  | .inl f => .inl f
  | .inr (d, r1) => match tz_num c t 1 9999 r1 with
    | .inl f => .inl f
    | .inr (u, r2) => if s = 2 then (match tz_word c t 4 r2 with
      | .inr r3 => tz_inP c t 3 d u r3
      | .inl _ => match tz_word c t 3 r2 with
        | .inl f => .inl f
        | .inr r3 => tz_inP c t 2 d u r3) else tz_inP c t s d u r2
noncomputable def tz_evO (c : Nat → Nat) (t : Nat) (Y : Nat → Nat → Int32) (n N : Nat) (s : Int32) (st r : Nat) : (Nat × Nat) ⊕ ((Nat → Nat → Int32) × Nat × Nat × Nat) := @ite _ (ab_room Y n s) (Classical.propDecidable _) (match tz_evP c t (ab_ld Y n) (if s = 2 then 2 else 1) (ab_mo Y n s) r with
  | .inl f => .inl f
  | .inr (d, u, r') => .inr (ab_ev Y n s d u, n + 1, N, r')) (.inl (3, st))
noncomputable def tz_inO (c : Nat → Nat) (t : Nat) (Y : Nat → Nat → Int32) (n N : Nat) (s : Int32) (st r : Nat) : (Nat × Nat) ⊕ ((Nat → Nat → Int32) × Nat × Nat × Nat) := if N < 8 then (match tz_igP c t s r with
  | .inl f => .inl f
  | .inr (so, d, u, k, r') => .inr (ab_in Y N so d u k, n, N + 1, r')) else .inl (3, st)
noncomputable def tz_otP (c : Nat → Nat) (t : Nat) (Y : Nat → Nat → Int32) (n N p : Nat) : (Nat × Nat) ⊕ ((Nat → Nat → Int32) × Nat × Nat × Nat) := match tz_word c t 5 p with
  | .inr r => tz_evO c t Y n N 0 (tz_t c t p).2.1 r
  | .inl _ => match tz_word c t 6 p with
    | .inr r => tz_evO c t Y n N 1 (tz_t c t p).2.1 r
    | .inl _ => match tz_word c t 7 p with
      | .inr r => tz_evO c t Y n N 2 (tz_t c t p).2.1 r
      | .inl _ => match tz_word c t 8 p with
        | .inr r => tz_inO c t Y n N 0 (tz_t c t p).2.1 r
        | .inl _ => match tz_word c t 9 p with
          | .inr r => tz_inO c t Y n N 1 (tz_t c t p).2.1 r
          | .inl _ => match tz_word c t 10 p with
            | .inr r => tz_inO c t Y n N 2 (tz_t c t p).2.1 r
            | .inl f => .inl f
theorem i3_in {v : Int32} {a b : Nat} {A B : Int32} (hA : A.toInt = a) (hB : B.toInt = b) (h1 : ¬ v < A) (h2 : ¬ B < v) : ab_I v a b := by
  rw [i3_lt] at h1 h2
  exact ⟨by omega, by omega⟩
section PCN
variable {w : pm_H} {fk fp pl nx tk va : Int32} {c : Nat → Nat} {B : Nat → Int32} {t p j z n N : Nat} {Y : Nat → Nat → Int32}
theorem c_event (hz : 48 < z) (h10 : w 10 = some (.inr (3, [.ref 11, .int (nI t)]))) (h11 : w 11 = some (.inl (2, 740, .inl B))) (hB : tz_B B c t) (ht : t ≤ 740) (hp : p ≤ t) (hw : ab_wf Y n N) {s : Int32} (hs0 : ¬ s < 0) (hs2 : ¬ 2 < s) {st : Nat} (hst : pl = nI st) :
    (∃ k s', tz_evO c t Y n N s st p = .inl (k, s') ∧ ∃ (Y' : Nat → Nat → Int32) (pl' nx' tk' va' : Int32), pm_call 25 [.ref 20, .ref z, .int s] (pm_Rw (pm_YW w z Y) fk fp pl (nI p) tk va) = some (some (.int 0), pm_Rw (pm_YW w z Y') (nI k) (nI s') pl' nx' tk' va')) ∨
    (∃ Y' n' N' r, tz_evO c t Y n N s st p = .inr (Y', n', N', r) ∧ r ≤ t ∧ ab_wf Y' n' N' ∧ n' + N' = n + N + 1 ∧ ∃ pl' tk' va' : Int32, pm_call 25 [.ref 20, .ref z, .int s] (pm_Rw (pm_YW w z Y) fk fp pl (nI p) tk va) = some (some (.int 1), pm_Rw (pm_YW w z Y') fk fp pl' (nI r) tk' va')) := by
  have hY : ∀ fk fp pl nx tk va, pm_Yr (pm_Rw (pm_YW w z Y) fk fp pl nx tk va) z Y := fun _ _ _ _ _ _ => rwYr hz
  unfold tz_evO
  by_cases hr : ab_room Y n s
  · rw [if_pos hr]
    unfold tz_evP
    have st1 : pm_call 25 [.ref 20, .ref z, .int s] (pm_Rw (pm_YW w z Y) fk fp pl (nI p) tk va) = pm_ev 25 14 [some (.ref 20), some (.ref z), some (.int s), none] [] (pm_Rw (pm_YW w z Y) fk fp pl (nI p) tk va) := by
      simp only [pe25, z25_0, z25_1, z25_2, z25_5, pm_kv_some, pm_kw_some, pm_k_some, pm_k_void, pm_vc_some, pm_kl_some, (hY fk fp pl (nI p) tk va).1, q_hasRoomForEvent (hY fk fp pl (nI p) tk va) hw.hn hw.n20]
      rw [if_pos (show n < 20 ∧ (s = 2 → ab_sc (Y 4) n 0 0 < 3) from hr), if_neg (by decide)]
    rw [st1]
    rcases c_numD (Y := Y) (fk := fk) (fp := fp) (pl := pl) (tk := tk) (va := va) (lo := ab_ld Y n) (hi := 359) hz h10 h11 hB ht hp with ⟨k, s', e, pl', nx', tk', va', h⟩ | ⟨d, r1, e, hr1, d1, d2, pl', tk', h⟩
    · left
      refine ⟨k, s', by rw [e], Y, pl', nx', tk', va', ?_⟩
      simp only [z25_14, z25_15, z25_16, z25_19, z25_22, z25_25, pm_kv_some, pm_kw_some, pm_k_some, pm_k_void, pm_vc_some, pm_kl_some, rw20, (hY fk fp pl (nI p) tk va).1, q_earliestDay (hY fk fp pl (nI p) tk va) hw.hn hw.n20, ab_ld_mx (ab_ld_nn hw), h]
      rw [if_pos trivial]
      simp only [z25_28, z25_29, pm_zr0]
    · simp only [e]
      have st2 : pm_ev 25 14 [some (.ref 20), some (.ref z), some (.int s), none] [] (pm_Rw (pm_YW w z Y) fk fp pl (nI p) tk va) = pm_ev 25 35 [some (.ref 20), some (.ref z), some (.int s), some (.int d)] [] (pm_Rw (pm_YW w z Y) fk fp pl' (nI r1) tk' d) := by
        simp only [z25_14, z25_15, z25_16, z25_19, z25_22, z25_25, pm_kv_some, pm_kw_some, pm_k_some, pm_k_void, pm_vc_some, pm_kl_some, rw20, (hY fk fp pl (nI p) tk va).1, q_earliestDay (hY fk fp pl (nI p) tk va) hw.hn hw.n20, ab_ld_mx (ab_ld_nn hw), h]
        rw [if_neg (by decide)]
        simp only [z25_30, z25_31, z25_34, pm_kv_some, pm_kw_some, pm_k_some, pm_k_void, pm_vc_some, pm_kl_some, pg2_0, pg2_1, pg2_2, pg2_3, pg2_4, pg2_5, pg2_6, rw20]
      rw [st2]
      have hmo : ∀ fk fp pl nx tk va, pm_call 35 [.ref z, .int s] (pm_Rw (pm_YW w z Y) fk fp pl nx tk va) = some (some (.int (ab_mo Y n s)), pm_Rw (pm_YW w z Y) fk fp pl nx tk va) := fun fk fp pl nx tk va => q_mostOfEvent (hY fk fp pl nx tk va) hw.hn hw.n20
      rcases c_numD (Y := Y) (fk := fk) (fp := fp) (pl := pl') (tk := tk') (va := d) (lo := if s = 2 then 2 else 1) (hi := ab_mo Y n s) hz h10 h11 hB ht hr1 with ⟨k, s', e2, pl2, nx2, tk2, va2, h2⟩ | ⟨u, r2, e2, hr2, u1, u2, pl2, tk2, h2⟩
      · left
        refine ⟨k, s', by rw [e2], Y, pl2, nx2, tk2, va2, ?_⟩
        simp only [z25_35, z25_36, z25_37, z25_38, z25_41, z25_42, z25_43, z25_46, z25_49, pm_kv_some, pm_kw_some, pm_k_some, pm_k_void, pm_vc_some, pm_kl_some, rw20, (hY fk fp pl' (nI r1) tk' d).1, q_leastOfEvent, hmo, h2]
        rw [if_pos trivial]
        simp only [z25_52, z25_53, pm_zr0]
      · simp only [e2]
        have st3 : pm_ev 25 35 [some (.ref 20), some (.ref z), some (.int s), some (.int d)] [] (pm_Rw (pm_YW w z Y) fk fp pl' (nI r1) tk' d) = pm_ev 25 64 [some (.ref 20), some (.ref z), some (.int s), some (.int d)] [] (pm_Rw (pm_YW w z (ab_ev Y n s d u)) fk fp pl2 (nI r2) tk2 u) := by
          simp only [z25_35, z25_36, z25_37, z25_38, z25_41, z25_42, z25_43, z25_46, z25_49, pm_kv_some, pm_kw_some, pm_k_some, pm_k_void, pm_vc_some, pm_kl_some, rw20, (hY fk fp pl' (nI r1) tk' d).1, q_leastOfEvent, hmo, h2]
          rw [if_neg (by decide)]
          simp only [z25_54, z25_55, z25_56, z25_57, z25_58, z25_61, pm_kv_some, pm_kw_some, pm_k_some, pm_k_void, pm_vc_some, pm_kl_some, pg2_0, pg2_1, pg2_2, pg2_3, pg2_4, pg2_5, pg2_6, rw20, (hY fk fp pl2 (nI r2) tk2 u).1, c_addEvent hz hw.hn hr.1]
        rw [st3]
        rcases c_semiD (Y := ab_ev Y n s d u) (fk := fk) (fp := fp) (pl := pl2) (tk := tk2) (va := u) hz h10 h11 hB ht hr2 with ⟨k, s', e3, pl3, nx3, tk3, va3, h3⟩ | ⟨r3, e3, hr3, pl3, tk3, va3, h3⟩
        · left
          refine ⟨k, s', by rw [e3], ab_ev Y n s d u, pl3, nx3, tk3, va3, ?_⟩
          simp only [z25_64, z25_65, z25_68, pm_kv_some, pm_kw_some, pm_k_some, pm_k_void, pm_vc_some, pm_kl_some, rw20, h3, pm_zr0]
        · right
          refine ⟨ab_ev Y n s d u, n + 1, N, r3, by rw [e3], hr3, hw.event ⟨hs0, hs2, d1, d2, u1, u2⟩ hr, by omega, pl3, tk3, va3, ?_⟩
          simp only [z25_64, z25_65, z25_68, pm_kv_some, pm_kw_some, pm_k_some, pm_k_void, pm_vc_some, pm_kl_some, rw20, h3, pm_zr1]
  · rw [if_neg hr]
    left
    refine ⟨3, st, rfl, Y, pl, nI p, tk, va, ?_⟩
    simp only [pe25, z25_0, z25_1, z25_2, z25_5, pm_kv_some, pm_kw_some, pm_k_some, pm_k_void, pm_vc_some, pm_kl_some, (hY fk fp pl (nI p) tk va).1, q_hasRoomForEvent (hY fk fp pl (nI p) tk va) hw.hn hw.n20]
    rw [if_neg (show ¬ (n < 20 ∧ (s = 2 → ab_sc (Y 4) n 0 0 < 3)) from hr), if_pos rfl]
    simp only [z25_8, z25_9, z25_10, z25_13, pm_kv_some, pm_kw_some, pm_k_some, pm_k_void, pm_vc_some, pm_kl_some, rw20, q_fail, pm_zr0]
    rw [hst]; rfl
theorem c_term (hz : 48 < z) (h10 : w 10 = some (.inr (3, [.ref 11, .int (nI t)]))) (h11 : w 11 = some (.inl (2, 740, .inl B))) (hB : tz_B B c t) (ht : t ≤ 740) (hp : p ≤ t) (hw : ab_wf Y n N) (h8 : N < 8) {x so d u : Int32} :
    (∃ k s', tz_inP c t so d u p = .inl (k, s') ∧ ∃ (Y' : Nat → Nat → Int32) (pl' nx' tk' va' : Int32), pm_ev 26 91 [some (.ref 20), some (.ref z), some (.int x), some (.int so), some (.int d), some (.int u)] [] (pm_Rw (pm_YW w z Y) fk fp pl (nI p) tk va) = some (some (.int 0), pm_Rw (pm_YW w z Y') (nI k) (nI s') pl' nx' tk' va')) ∨
    (∃ k r, tz_inP c t so d u p = .inr (so, d, u, k, r) ∧ r ≤ t ∧ ab_I k 0 99999 ∧ ∃ pl' tk' va' : Int32, pm_ev 26 91 [some (.ref 20), some (.ref z), some (.int x), some (.int so), some (.int d), some (.int u)] [] (pm_Rw (pm_YW w z Y) fk fp pl (nI p) tk va) = some (some (.int 1), pm_Rw (pm_YW w z (ab_in Y N so d u k)) fk fp pl' (nI r) tk' va')) := by
  have hY : ∀ fk fp pl nx tk va, pm_Yr (pm_Rw (pm_YW w z Y) fk fp pl nx tk va) z Y := fun _ _ _ _ _ _ => rwYr hz
  unfold tz_inP tz_tmP
  rcases c_numD (Y := Y) (fk := fk) (fp := fp) (pl := pl) (tk := tk) (va := va) (lo := if so = 0 then 1 else 0) (hi := if so = 0 then 9999 else 99999) hz h10 h11 hB ht hp with ⟨k, s', e, pl', nx', tk', va', h⟩ | ⟨k, r1, e, hr1, k1, k2, pl', tk', h⟩
  · left
    refine ⟨k, s', by rw [e], Y, pl', nx', tk', va', ?_⟩
    simp only [z26_91, z26_92, z26_93, z26_96, z26_97, z26_100, z26_103, pm_kv_some, pm_kw_some, pm_k_some, pm_k_void, pm_vc_some, pm_kl_some, rw20, q_leastTerm, q_mostTerm, h]
    rw [if_pos trivial]
    simp only [z26_106, z26_107, pm_zr0]
  · simp only [e]
    have ik : ab_I k 0 99999 := by
      by_cases e0 : so = 0
      · rw [if_pos e0] at k1 k2
        have := i3_in (a := 1) (b := 9999) rfl rfl k1 k2
        exact ⟨by have := this.1; omega, by have := this.2; omega⟩
      · rw [if_neg e0] at k1 k2
        exact i3_in (a := 0) (b := 99999) rfl rfl k1 k2
    have st : pm_ev 26 91 [some (.ref 20), some (.ref z), some (.int x), some (.int so), some (.int d), some (.int u)] [] (pm_Rw (pm_YW w z Y) fk fp pl (nI p) tk va) = pm_ev 26 121 [some (.ref 20), some (.ref z), some (.int x), some (.int so), some (.int d), some (.int u)] [] (pm_Rw (pm_YW w z (ab_in Y N so d u k)) fk fp pl' (nI r1) tk' k) := by
      simp only [z26_91, z26_92, z26_93, z26_96, z26_97, z26_100, z26_103, pm_kv_some, pm_kw_some, pm_k_some, pm_k_void, pm_vc_some, pm_kl_some, rw20, q_leastTerm, q_mostTerm, h]
      rw [if_neg (by decide)]
      simp only [z26_108, z26_109, z26_110, z26_112, z26_114, z26_115, z26_118, pm_kv_some, pm_kw_some, pm_k_some, pm_k_void, pm_vc_some, pm_kl_some, pg2_0, pg2_1, pg2_2, pg2_3, pg2_4, pg2_5, pg2_6, rw20, (hY fk fp pl' (nI r1) tk' k).1, c_addInstr hz hw.hN h8]
    rw [st]
    rcases c_semiD (Y := ab_in Y N so d u k) (fk := fk) (fp := fp) (pl := pl') (tk := tk') (va := k) hz h10 h11 hB ht hr1 with ⟨k3, s', e3, pl3, nx3, tk3, va3, h3⟩ | ⟨r3, e3, hr3, pl3, tk3, va3, h3⟩
    · left
      refine ⟨k3, s', by rw [e3], ab_in Y N so d u k, pl3, nx3, tk3, va3, ?_⟩
      simp only [z26_121, z26_122, z26_125, pm_kv_some, pm_kw_some, pm_k_some, pm_k_void, pm_vc_some, pm_kl_some, rw20, h3, pm_zr0]
    · right
      refine ⟨k, r3, by rw [e3], hr3, ik, pl3, tk3, va3, ?_⟩
      simp only [z26_121, z26_122, z26_125, pm_kv_some, pm_kw_some, pm_k_some, pm_k_void, pm_vc_some, pm_kl_some, rw20, h3, pm_zr1]
theorem c_instr (hz : 48 < z) (h10 : w 10 = some (.inr (3, [.ref 11, .int (nI t)]))) (h11 : w 11 = some (.inl (2, 740, .inl B))) (hB : tz_B B c t) (ht : t ≤ 740) (hp : p ≤ t) (hw : ab_wf Y n N) {s : Int32} (hs0 : ¬ s < 0) (hs2 : ¬ 2 < s) {st : Nat} (hst : pl = nI st) :
    (∃ k s', tz_inO c t Y n N s st p = .inl (k, s') ∧ ∃ (Y' : Nat → Nat → Int32) (pl' nx' tk' va' : Int32), pm_call 26 [.ref 20, .ref z, .int s] (pm_Rw (pm_YW w z Y) fk fp pl (nI p) tk va) = some (some (.int 0), pm_Rw (pm_YW w z Y') (nI k) (nI s') pl' nx' tk' va')) ∨
    (∃ Y' n' N' r, tz_inO c t Y n N s st p = .inr (Y', n', N', r) ∧ r ≤ t ∧ ab_wf Y' n' N' ∧ n' + N' = n + N + 1 ∧ ∃ pl' tk' va' : Int32, pm_call 26 [.ref 20, .ref z, .int s] (pm_Rw (pm_YW w z Y) fk fp pl (nI p) tk va) = some (some (.int 1), pm_Rw (pm_YW w z Y') fk fp pl' (nI r) tk' va')) := by
  have hY : ∀ fk fp pl nx tk va, pm_Yr (pm_Rw (pm_YW w z Y) fk fp pl nx tk va) z Y := fun _ _ _ _ _ _ => rwYr hz
  have hN8 := hw.N8
  unfold tz_inO
  by_cases hr : N < 8
  · rw [if_pos hr]
    unfold tz_igP
    have st1 : pm_call 26 [.ref 20, .ref z, .int s] (pm_Rw (pm_YW w z Y) fk fp pl (nI p) tk va) = pm_ev 26 15 [some (.ref 20), some (.ref z), some (.int s), some (.int s), none, none] [] (pm_Rw (pm_YW w z Y) fk fp pl (nI p) tk va) := by
      simp only [pe26, z26_0, z26_1, z26_2, z26_3, z26_6, pm_kv_some, pm_kw_some, pm_k_some, pm_k_void, pm_vc_some, pm_kl_some, (hY fk fp pl (nI p) tk va).1, q_hasRoomForInstrument (hY fk fp pl (nI p) tk va), hw.hN]
      rw [if_pos (show nI N < 8 from nI_lt (b := 8) hr (by omega)), if_neg (by decide)]
    rw [st1]
    rcases c_numD (Y := Y) (fk := fk) (fp := fp) (pl := pl) (tk := tk) (va := va) (lo := 0) (hi := 359) hz h10 h11 hB ht hp with ⟨k, s', e, pl', nx', tk', va', h⟩ | ⟨d, r1, e, hr1, d1, d2, pl', tk', h⟩
    · left
      refine ⟨k, s', by rw [e], Y, pl', nx', tk', va', ?_⟩
      simp only [z26_15, z26_16, z26_17, z26_20, z26_23, pm_kv_some, pm_kw_some, pm_k_some, pm_k_void, pm_vc_some, pm_kl_some, rw20, h]
      rw [if_pos trivial]
      simp only [z26_26, z26_27, pm_zr0]
    · simp only [e]
      have idd := i3_in (a := 0) (b := 359) rfl rfl d1 d2
      have st2 : pm_ev 26 15 [some (.ref 20), some (.ref z), some (.int s), some (.int s), none, none] [] (pm_Rw (pm_YW w z Y) fk fp pl (nI p) tk va) = pm_ev 26 34 [some (.ref 20), some (.ref z), some (.int s), some (.int s), some (.int d), none] [] (pm_Rw (pm_YW w z Y) fk fp pl' (nI r1) tk' d) := by
        simp only [z26_15, z26_16, z26_17, z26_20, z26_23, pm_kv_some, pm_kw_some, pm_k_some, pm_k_void, pm_vc_some, pm_kl_some, rw20, h]
        rw [if_neg (by decide)]
        simp only [z26_28, z26_29, z26_32, pm_kv_some, pm_kw_some, pm_k_some, pm_k_void, pm_vc_some, pm_kl_some, pg2_0, pg2_1, pg2_2, pg2_3, pg2_4, pg2_5, pg2_6, rw20]
      rw [st2]
      rcases c_numD (Y := Y) (fk := fk) (fp := fp) (pl := pl') (tk := tk') (va := d) (lo := 1) (hi := 9999) hz h10 h11 hB ht hr1 with ⟨k, s', e2, pl2, nx2, tk2, va2, h2⟩ | ⟨u, r2, e2, hr2, u1, u2, pl2, tk2, h2⟩
      · left
        refine ⟨k, s', by rw [e2], Y, pl2, nx2, tk2, va2, ?_⟩
        simp only [z26_34, z26_35, z26_36, z26_39, z26_42, pm_kv_some, pm_kw_some, pm_k_some, pm_k_void, pm_vc_some, pm_kl_some, rw20, h2]
        rw [if_pos trivial]
        simp only [z26_45, z26_46, pm_zr0]
      · simp only [e2]
        have iu := i3_in (a := 1) (b := 9999) rfl rfl u1 u2
        have fin : ∀ (x so : Int32) (pl nx tk va : Int32) (r : Nat) (X : Option (Option Value × pm_H)), r ≤ t → ab_I so 0 3 → X = pm_ev 26 91 [some (.ref 20), some (.ref z), some (.int x), some (.int so), some (.int d), some (.int u)] [] (pm_Rw (pm_YW w z Y) fk fp pl (nI r) tk va) →
          (∃ k s', tz_inP c t so d u r = .inl (k, s') ∧ ∃ (Y' : Nat → Nat → Int32) (pl' nx' tk' va' : Int32), X = some (some (.int 0), pm_Rw (pm_YW w z Y') (nI k) (nI s') pl' nx' tk' va')) ∨ (∃ k r', tz_inP c t so d u r = .inr (so, d, u, k, r') ∧ r' ≤ t ∧ ab_wf (ab_in Y N so d u k) n (N + 1) ∧ ∃ pl' tk' va' : Int32, X = some (some (.int 1), pm_Rw (pm_YW w z (ab_in Y N so d u k)) fk fp pl' (nI r') tk' va')) := by
          intro x so pl nx tk va r X hr9 hso hX
          rcases c_term (Y := Y) (fk := fk) (fp := fp) (pl := pl) (tk := tk) (va := va) (x := x) (so := so) (d := d) (u := u) hz h10 h11 hB ht hr9 hw hr with ⟨k, s', e3, Y', pl3, nx3, tk3, va3, h3⟩ | ⟨k, r3, e3, hr3, ik, pl3, tk3, va3, h3⟩
          · exact Or.inl ⟨k, s', e3, Y', pl3, nx3, tk3, va3, hX.trans h3⟩
          · exact Or.inr ⟨k, r3, e3, hr3, hw.instr hr hso idd iu ik, pl3, tk3, va3, hX.trans h3⟩
        have st3 : pm_ev 26 34 [some (.ref 20), some (.ref z), some (.int s), some (.int s), some (.int d), none] [] (pm_Rw (pm_YW w z Y) fk fp pl' (nI r1) tk' d) = if s = 2 then pm_ev 26 58 [some (.ref 20), some (.ref z), some (.int s), some (.int s), some (.int d), some (.int u)] [] (pm_Rw (pm_YW w z Y) fk fp pl2 (nI r2) tk2 u) else pm_ev 26 91 [some (.ref 20), some (.ref z), some (.int s), some (.int s), some (.int d), some (.int u)] [] (pm_Rw (pm_YW w z Y) fk fp pl2 (nI r2) tk2 u) := by
          simp only [z26_34, z26_35, z26_36, z26_39, z26_42, pm_kv_some, pm_kw_some, pm_k_some, pm_k_void, pm_vc_some, pm_kl_some, rw20, h2]
          rw [if_neg (by decide)]
          simp only [z26_47, z26_48, z26_51, z26_53, z26_54, z26_55, pm_kv_some, pm_kw_some, pm_k_some, pm_k_void, pm_vc_some, pm_kl_some, pg2_0, pg2_1, pg2_2, pg2_3, pg2_4, pg2_5, pg2_6, rw20]
        rw [st3]
        have is : ab_I s 0 2 := i3_in (a := 0) (b := 2) rfl rfl hs0 hs2
        by_cases es : s = 2
        · rw [if_pos es, if_pos es]
          obtain ⟨pl4, nx4, tk4, va4, h4, hc⟩ := c_stepD (Y := Y) (fk := fk) (fp := fp) (pl := pl2) (tk := tk2) (va := u) hz h10 h11 hB ht hr2
          obtain ⟨q1, q2⟩ := c_iswD (Y := Y) (fk := fk) (fp := fp) (j := 4) hz h10 h11 hB ht hr2 (by omega) hc
          obtain ⟨f1, f2⟩ := c_iswD (Y := Y) (fk := fk) (fp := fp) (j := 3) hz h10 h11 hB ht hr2 (by omega) hc
          cases e4 : tz_word c t 4 r2 with
          | inr r3 =>
            obtain ⟨i1, i2⟩ := tz_word_t e4
            have hr3 := tz_word_le hr2 e4
            simp only [e4]
            rcases fin s 3 pl4 nx4 tk4 va4 r3 _ hr3 ⟨by decide, by decide⟩ (show pm_ev 26 58 [some (.ref 20), some (.ref z), some (.int s), some (.int s), some (.int d), some (.int u)] [] (pm_Rw (pm_YW w z Y) fk fp pl2 (nI r2) tk2 u) = _ by
              simp only [z26_58, z26_59, z26_62, z26_63, z26_65, z26_68, pm_kv_some, pm_kw_some, pm_k_some, pm_k_void, pm_vc_some, pm_kl_some, rw20, h4, q1 i1]
              rw [if_neg (by decide)]
              simp only [z26_71, z26_72, z26_73]
              rw [i2, ← hc.2.2.1 (Or.inl i1.1)]) with ⟨k, s', e5, Y', pl5, nx5, tk5, va5, h5⟩ | ⟨k, r5, e5, hr5, hw5, pl5, tk5, va5, h5⟩
            · exact Or.inl ⟨k, s', by rw [e5], Y', pl5, nx5, tk5, va5, h5⟩
            · exact Or.inr ⟨_, n, N + 1, r5, by rw [e5], hr5, hw5, by omega, pl5, tk5, va5, h5⟩
          | inl f4 =>
            obtain ⟨i1, -, -⟩ := tz_word_f (k := f4.1) (s := f4.2) e4
            simp only [e4]
            have st4 : pm_ev 26 58 [some (.ref 20), some (.ref z), some (.int s), some (.int s), some (.int d), some (.int u)] [] (pm_Rw (pm_YW w z Y) fk fp pl2 (nI r2) tk2 u) = pm_ev 26 76 [some (.ref 20), some (.ref z), some (.int s), some (.int s), some (.int d), some (.int u)] [] (pm_Rw (pm_YW w z Y) fk fp pl4 nx4 tk4 va4) := by
              simp only [z26_58, z26_59, z26_62, z26_63, z26_65, z26_68, pm_kv_some, pm_kw_some, pm_k_some, pm_k_void, pm_vc_some, pm_kl_some, rw20, h4, q2 i1]
              rw [if_pos trivial]
            rw [st4]
            cases e6 : tz_word c t 3 r2 with
            | inl f6 =>
              obtain ⟨k6, s6⟩ := f6
              obtain ⟨j1, j2, j3⟩ := tz_word_f e6
              left
              refine ⟨k6, s6, rfl, Y, pl4, nx4, tk4, va4, ?_⟩
              simp only [z26_76, z26_77, z26_79, z26_82, pm_kv_some, pm_kw_some, pm_k_some, pm_k_void, pm_vc_some, pm_kl_some, rw20, f2 j1]
              rw [if_pos trivial]
              simp only [z26_85, z26_86, z26_87, z26_90, pm_kv_some, pm_kw_some, pm_k_some, pm_k_void, pm_vc_some, pm_kl_some, rw20, q_fail, pm_zr0]
              rw [j2, j3, ← hc.1]; rfl
            | inr r3 =>
              obtain ⟨j1, j2⟩ := tz_word_t e6
              have hr3 := tz_word_le hr2 e6
              simp only [e6]
              rcases fin s 2 pl4 nx4 tk4 va4 r3 _ hr3 ⟨by decide, by decide⟩ (show pm_ev 26 76 [some (.ref 20), some (.ref z), some (.int s), some (.int s), some (.int d), some (.int u)] [] (pm_Rw (pm_YW w z Y) fk fp pl4 nx4 tk4 va4) = _ by
                simp only [z26_76, z26_77, z26_79, z26_82, pm_kv_some, pm_kw_some, pm_k_some, pm_k_void, pm_vc_some, pm_kl_some, rw20, f1 j1]
                rw [if_neg (by decide), j2, ← hc.2.2.1 (Or.inl j1.1), es]) with ⟨k, s', e5, Y', pl5, nx5, tk5, va5, h5⟩ | ⟨k, r5, e5, hr5, hw5, pl5, tk5, va5, h5⟩
              · exact Or.inl ⟨k, s', by rw [e5], Y', pl5, nx5, tk5, va5, h5⟩
              · exact Or.inr ⟨_, n, N + 1, r5, by rw [e5], hr5, hw5, by omega, pl5, tk5, va5, h5⟩
        · rw [if_neg es, if_neg es]
          rcases fin s s pl2 (nI r2) tk2 u r2 _ hr2 ⟨is.1, by have := is.2; omega⟩ rfl with ⟨k, s', e5, Y', pl5, nx5, tk5, va5, h5⟩ | ⟨k, r5, e5, hr5, hw5, pl5, tk5, va5, h5⟩
          · exact Or.inl ⟨k, s', by rw [e5], Y', pl5, nx5, tk5, va5, h5⟩
          · exact Or.inr ⟨_, n, N + 1, r5, by rw [e5], hr5, hw5, by omega, pl5, tk5, va5, h5⟩
  · rw [if_neg hr]
    left
    refine ⟨3, st, rfl, Y, pl, nI p, tk, va, ?_⟩
    simp only [pe26, z26_0, z26_1, z26_2, z26_3, z26_6, pm_kv_some, pm_kw_some, pm_k_some, pm_k_void, pm_vc_some, pm_kl_some, (hY fk fp pl (nI p) tk va).1, q_hasRoomForInstrument (hY fk fp pl (nI p) tk va), hw.hN]
    rw [if_neg (show ¬ nI N < 8 from nI_nlt (b := 8) (by omega) (by omega)), if_pos rfl]
    simp only [z26_9, z26_10, z26_11, z26_14, pm_kv_some, pm_kw_some, pm_k_some, pm_k_void, pm_vc_some, pm_kl_some, rw20, q_fail, pm_zr0]
    rw [hst]; rfl
theorem c_other (hz : 48 < z) (h10 : w 10 = some (.inr (3, [.ref 11, .int (nI t)]))) (h11 : w 11 = some (.inl (2, 740, .inl B))) (hB : tz_B B c t) (ht : t ≤ 740) (hp : p ≤ t) (hw : ab_wf Y n N) (hc : tz_ccur c t p pl nx tk va) :
    (∃ k s', tz_otP c t Y n N p = .inl (k, s') ∧ ∃ (Y' : Nat → Nat → Int32) (pl' nx' tk' va' : Int32), pm_call 24 [.ref 20, .ref z] (pm_Rw (pm_YW w z Y) fk fp pl nx tk va) = some (some (.int 0), pm_Rw (pm_YW w z Y') (nI k) (nI s') pl' nx' tk' va')) ∨
    (∃ Y' n' N' r, tz_otP c t Y n N p = .inr (Y', n', N', r) ∧ r ≤ t ∧ ab_wf Y' n' N' ∧ n' + N' = n + N + 1 ∧ ∃ pl' tk' va' : Int32, pm_call 24 [.ref 20, .ref z] (pm_Rw (pm_YW w z Y) fk fp pl nx tk va) = some (some (.int 1), pm_Rw (pm_YW w z Y') fk fp pl' (nI r) tk' va')) := by
  have hY := rwYr (w := w) (fk := fk) (fp := fp) (pl := pl) (nx := nx) (tk := tk) (va := va) (Y := Y) hz
  have W := fun (j : Nat) (hj : j < 11) => c_iswD (Y := Y) (w := w) (fk := fk) (fp := fp) (j := j) hz h10 h11 hB ht hp hj hc
  have nxr : ∀ j r, tz_word c t j p = .inr r → nx = nI r := fun j r h => by
    obtain ⟨i1, i2⟩ := tz_word_t h
    rw [i2]; exact hc.2.2.1 (Or.inl i1.1)
  unfold tz_otP
  cases e5 : tz_word c t 5 p with
  | inr r =>
    simp only [e5]
    have i1 := (W 5 (by omega)).1 (tz_word_t e5).1
    have := nxr 5 r e5
    subst this
    rcases c_event (s := 0) (Y := Y) (fk := fk) (fp := fp) (pl := pl) (tk := tk) (va := va) hz h10 h11 hB ht (tz_word_le hp e5) hw (by decide) (by decide) hc.1 with ⟨k, s', e, Y', pl', nx', tk', va', h⟩ | ⟨Y', n', N', r', e, hr, hw', hn', pl', tk', va', h⟩
    · refine Or.inl ⟨k, s', e, Y', pl', nx', tk', va', ?_⟩
      simp only [pe24, z24_0, z24_1, z24_3, z24_6, pm_kv_some, pm_kw_some, pm_k_some, pm_k_void, pm_vc_some, pm_kl_some, rw20, i1]
      rw [if_neg (by decide)]
      simp only [z24_9, z24_10, z24_11, z24_12, z24_15, pm_kv_some, pm_kw_some, pm_k_some, pm_k_void, pm_vc_some, pm_kl_some, rw20, h, pm_zr0]
    · refine Or.inr ⟨Y', n', N', r', e, hr, hw', hn', pl', tk', va', ?_⟩
      simp only [pe24, z24_0, z24_1, z24_3, z24_6, pm_kv_some, pm_kw_some, pm_k_some, pm_k_void, pm_vc_some, pm_kl_some, rw20, i1]
      rw [if_neg (by decide)]
      simp only [z24_9, z24_10, z24_11, z24_12, z24_15, pm_kv_some, pm_kw_some, pm_k_some, pm_k_void, pm_vc_some, pm_kl_some, rw20, h, pm_zr1]
  | inl f5 =>
  simp only [e5]
  have n5 := (W 5 (by omega)).2 (tz_word_f (k := f5.1) (s := f5.2) e5).1
  cases e6 : tz_word c t 6 p with
  | inr r =>
    simp only [e6]
    have i1 := (W 6 (by omega)).1 (tz_word_t e6).1
    have := nxr 6 r e6
    subst this
    rcases c_event (s := 1) (Y := Y) (fk := fk) (fp := fp) (pl := pl) (tk := tk) (va := va) hz h10 h11 hB ht (tz_word_le hp e6) hw (by decide) (by decide) hc.1 with ⟨k, s', e, Y', pl', nx', tk', va', h⟩ | ⟨Y', n', N', r', e, hr, hw', hn', pl', tk', va', h⟩
    · refine Or.inl ⟨k, s', e, Y', pl', nx', tk', va', ?_⟩
      simp only [pe24, z24_0, z24_1, z24_3, z24_6, pm_kv_some, pm_kw_some, pm_k_some, pm_k_void, pm_vc_some, pm_kl_some, rw20, n5]
      rw [if_pos trivial]
      simp only [z24_16, z24_17, z24_19, z24_22, pm_kv_some, pm_kw_some, pm_k_some, pm_k_void, pm_vc_some, pm_kl_some, rw20, i1]
      rw [if_neg (by decide)]
      simp only [z24_25, z24_26, z24_27, z24_28, z24_31, pm_kv_some, pm_kw_some, pm_k_some, pm_k_void, pm_vc_some, pm_kl_some, rw20, h, pm_zr0]
    · refine Or.inr ⟨Y', n', N', r', e, hr, hw', hn', pl', tk', va', ?_⟩
      simp only [pe24, z24_0, z24_1, z24_3, z24_6, pm_kv_some, pm_kw_some, pm_k_some, pm_k_void, pm_vc_some, pm_kl_some, rw20, n5]
      rw [if_pos trivial]
      simp only [z24_16, z24_17, z24_19, z24_22, pm_kv_some, pm_kw_some, pm_k_some, pm_k_void, pm_vc_some, pm_kl_some, rw20, i1]
      rw [if_neg (by decide)]
      simp only [z24_25, z24_26, z24_27, z24_28, z24_31, pm_kv_some, pm_kw_some, pm_k_some, pm_k_void, pm_vc_some, pm_kl_some, rw20, h, pm_zr1]
  | inl f6 =>
  simp only [e6]
  have n6 := (W 6 (by omega)).2 (tz_word_f (k := f6.1) (s := f6.2) e6).1
  have s32 : pm_call 24 [.ref 20, .ref z] (pm_Rw (pm_YW w z Y) fk fp pl nx tk va) = pm_ev 24 32 [some (.ref 20), some (.ref z)] [] (pm_Rw (pm_YW w z Y) fk fp pl nx tk va) := by
    simp only [pe24, z24_0, z24_1, z24_3, z24_6, pm_kv_some, pm_kw_some, pm_k_some, pm_k_void, pm_vc_some, pm_kl_some, rw20, n5]
    rw [if_pos trivial]
    simp only [z24_16, z24_17, z24_19, z24_22, pm_kv_some, pm_kw_some, pm_k_some, pm_k_void, pm_vc_some, pm_kl_some, rw20, n6]
    rw [if_pos trivial]
  rw [s32]
  cases e7 : tz_word c t 7 p with
  | inr r =>
    simp only [e7]
    have i1 := (W 7 (by omega)).1 (tz_word_t e7).1
    have := nxr 7 r e7
    subst this
    rcases c_event (s := 2) (Y := Y) (fk := fk) (fp := fp) (pl := pl) (tk := tk) (va := va) hz h10 h11 hB ht (tz_word_le hp e7) hw (by decide) (by decide) hc.1 with ⟨k, s', e, Y', pl', nx', tk', va', h⟩ | ⟨Y', n', N', r', e, hr, hw', hn', pl', tk', va', h⟩
    · refine Or.inl ⟨k, s', e, Y', pl', nx', tk', va', ?_⟩
      simp only [z24_32, z24_33, z24_35, z24_38, pm_kv_some, pm_kw_some, pm_k_some, pm_k_void, pm_vc_some, pm_kl_some, rw20, i1]
      rw [if_neg (by decide)]
      simp only [z24_41, z24_42, z24_43, z24_44, z24_47, pm_kv_some, pm_kw_some, pm_k_some, pm_k_void, pm_vc_some, pm_kl_some, rw20, h, pm_zr0]
    · refine Or.inr ⟨Y', n', N', r', e, hr, hw', hn', pl', tk', va', ?_⟩
      simp only [z24_32, z24_33, z24_35, z24_38, pm_kv_some, pm_kw_some, pm_k_some, pm_k_void, pm_vc_some, pm_kl_some, rw20, i1]
      rw [if_neg (by decide)]
      simp only [z24_41, z24_42, z24_43, z24_44, z24_47, pm_kv_some, pm_kw_some, pm_k_some, pm_k_void, pm_vc_some, pm_kl_some, rw20, h, pm_zr1]
  | inl f7 =>
  simp only [e7]
  have n7 := (W 7 (by omega)).2 (tz_word_f (k := f7.1) (s := f7.2) e7).1
  have s48 : pm_ev 24 32 [some (.ref 20), some (.ref z)] [] (pm_Rw (pm_YW w z Y) fk fp pl nx tk va) = pm_ev 24 48 [some (.ref 20), some (.ref z)] [] (pm_Rw (pm_YW w z Y) fk fp pl nx tk va) := by
    simp only [z24_32, z24_33, z24_35, z24_38, pm_kv_some, pm_kw_some, pm_k_some, pm_k_void, pm_vc_some, pm_kl_some, rw20, n7]
    rw [if_pos trivial]
  rw [s48]
  cases e8 : tz_word c t 8 p with
  | inr r =>
    simp only [e8]
    have i1 := (W 8 (by omega)).1 (tz_word_t e8).1
    have := nxr 8 r e8
    subst this
    rcases c_instr (s := 0) (Y := Y) (fk := fk) (fp := fp) (pl := pl) (tk := tk) (va := va) hz h10 h11 hB ht (tz_word_le hp e8) hw (by decide) (by decide) hc.1 with ⟨k, s', e, Y', pl', nx', tk', va', h⟩ | ⟨Y', n', N', r', e, hr, hw', hn', pl', tk', va', h⟩
    · refine Or.inl ⟨k, s', e, Y', pl', nx', tk', va', ?_⟩
      simp only [z24_48, z24_49, z24_51, z24_54, pm_kv_some, pm_kw_some, pm_k_some, pm_k_void, pm_vc_some, pm_kl_some, rw20, i1]
      rw [if_neg (by decide)]
      simp only [z24_57, z24_58, z24_59, z24_60, z24_63, pm_kv_some, pm_kw_some, pm_k_some, pm_k_void, pm_vc_some, pm_kl_some, rw20, h, pm_zr0]
    · refine Or.inr ⟨Y', n', N', r', e, hr, hw', hn', pl', tk', va', ?_⟩
      simp only [z24_48, z24_49, z24_51, z24_54, pm_kv_some, pm_kw_some, pm_k_some, pm_k_void, pm_vc_some, pm_kl_some, rw20, i1]
      rw [if_neg (by decide)]
      simp only [z24_57, z24_58, z24_59, z24_60, z24_63, pm_kv_some, pm_kw_some, pm_k_some, pm_k_void, pm_vc_some, pm_kl_some, rw20, h, pm_zr1]
  | inl f8 =>
  simp only [e8]
  have n8 := (W 8 (by omega)).2 (tz_word_f (k := f8.1) (s := f8.2) e8).1
  have s64 : pm_ev 24 48 [some (.ref 20), some (.ref z)] [] (pm_Rw (pm_YW w z Y) fk fp pl nx tk va) = pm_ev 24 64 [some (.ref 20), some (.ref z)] [] (pm_Rw (pm_YW w z Y) fk fp pl nx tk va) := by
    simp only [z24_48, z24_49, z24_51, z24_54, pm_kv_some, pm_kw_some, pm_k_some, pm_k_void, pm_vc_some, pm_kl_some, rw20, n8]
    rw [if_pos trivial]
  rw [s64]
  cases e9 : tz_word c t 9 p with
  | inr r =>
    simp only [e9]
    have i1 := (W 9 (by omega)).1 (tz_word_t e9).1
    have := nxr 9 r e9
    subst this
    rcases c_instr (s := 1) (Y := Y) (fk := fk) (fp := fp) (pl := pl) (tk := tk) (va := va) hz h10 h11 hB ht (tz_word_le hp e9) hw (by decide) (by decide) hc.1 with ⟨k, s', e, Y', pl', nx', tk', va', h⟩ | ⟨Y', n', N', r', e, hr, hw', hn', pl', tk', va', h⟩
    · refine Or.inl ⟨k, s', e, Y', pl', nx', tk', va', ?_⟩
      simp only [z24_64, z24_65, z24_67, z24_70, pm_kv_some, pm_kw_some, pm_k_some, pm_k_void, pm_vc_some, pm_kl_some, rw20, i1]
      rw [if_neg (by decide)]
      simp only [z24_73, z24_74, z24_75, z24_76, z24_79, pm_kv_some, pm_kw_some, pm_k_some, pm_k_void, pm_vc_some, pm_kl_some, rw20, h, pm_zr0]
    · refine Or.inr ⟨Y', n', N', r', e, hr, hw', hn', pl', tk', va', ?_⟩
      simp only [z24_64, z24_65, z24_67, z24_70, pm_kv_some, pm_kw_some, pm_k_some, pm_k_void, pm_vc_some, pm_kl_some, rw20, i1]
      rw [if_neg (by decide)]
      simp only [z24_73, z24_74, z24_75, z24_76, z24_79, pm_kv_some, pm_kw_some, pm_k_some, pm_k_void, pm_vc_some, pm_kl_some, rw20, h, pm_zr1]
  | inl f9 =>
  simp only [e9]
  have n9 := (W 9 (by omega)).2 (tz_word_f (k := f9.1) (s := f9.2) e9).1
  have s80 : pm_ev 24 64 [some (.ref 20), some (.ref z)] [] (pm_Rw (pm_YW w z Y) fk fp pl nx tk va) = pm_ev 24 80 [some (.ref 20), some (.ref z)] [] (pm_Rw (pm_YW w z Y) fk fp pl nx tk va) := by
    simp only [z24_64, z24_65, z24_67, z24_70, pm_kv_some, pm_kw_some, pm_k_some, pm_k_void, pm_vc_some, pm_kl_some, rw20, n9]
    rw [if_pos trivial]
  rw [s80]
  cases e10 : tz_word c t 10 p with
  | inr r =>
    simp only [e10]
    have i1 := (W 10 (by omega)).1 (tz_word_t e10).1
    have := nxr 10 r e10
    subst this
    rcases c_instr (s := 2) (Y := Y) (fk := fk) (fp := fp) (pl := pl) (tk := tk) (va := va) hz h10 h11 hB ht (tz_word_le hp e10) hw (by decide) (by decide) hc.1 with ⟨k, s', e, Y', pl', nx', tk', va', h⟩ | ⟨Y', n', N', r', e, hr, hw', hn', pl', tk', va', h⟩
    · refine Or.inl ⟨k, s', e, Y', pl', nx', tk', va', ?_⟩
      simp only [z24_80, z24_81, z24_83, z24_86, pm_kv_some, pm_kw_some, pm_k_some, pm_k_void, pm_vc_some, pm_kl_some, rw20, i1]
      rw [if_neg (by decide)]
      simp only [z24_89, z24_90, z24_91, z24_92, z24_95, pm_kv_some, pm_kw_some, pm_k_some, pm_k_void, pm_vc_some, pm_kl_some, rw20, h, pm_zr0]
    · refine Or.inr ⟨Y', n', N', r', e, hr, hw', hn', pl', tk', va', ?_⟩
      simp only [z24_80, z24_81, z24_83, z24_86, pm_kv_some, pm_kw_some, pm_k_some, pm_k_void, pm_vc_some, pm_kl_some, rw20, i1]
      rw [if_neg (by decide)]
      simp only [z24_89, z24_90, z24_91, z24_92, z24_95, pm_kv_some, pm_kw_some, pm_k_some, pm_k_void, pm_vc_some, pm_kl_some, rw20, h, pm_zr1]
  | inl f10 =>
    simp only [e10]
    obtain ⟨k10, st10⟩ := f10
    obtain ⟨j1, j2, j3⟩ := tz_word_f e10
    refine Or.inl ⟨k10, st10, rfl, Y, pl, nx, tk, va, ?_⟩
    simp only [z24_80, z24_81, z24_83, z24_86, pm_kv_some, pm_kw_some, pm_k_some, pm_k_void, pm_vc_some, pm_kl_some, rw20, (W 10 (by omega)).2 j1]
    rw [if_pos trivial]
    simp only [z24_96, z24_97, z24_98, z24_101, pm_kv_some, pm_kw_some, pm_k_some, pm_k_void, pm_vc_some, pm_kl_some, rw20, q_fail, pm_zr0]
    rw [j2, j3, ← hc.1]; rfl
end PCN
