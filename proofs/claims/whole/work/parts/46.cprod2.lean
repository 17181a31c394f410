/-! LINES, the class's part: quarters, events, instruments -/
section PCM
variable {w : pm_H} {fk fp pl nx tk va : Int32} {c : Nat → Nat} {B : Nat → Int32} {t p j z n N : Nat} {Y : Nat → Nat → Int32}
theorem c_numD (hz : 48 < z) (h10 : w 10 = some (.inr (3, [.ref 11, .int (nI t)]))) (h11 : w 11 = some (.inl (2, 740, .inl B))) (hB : tz_B B c t) (ht : t ≤ 740) (hp : p ≤ t) {lo hi : Int32} :
    (∃ k s, tz_num c t lo hi p = .inl (k, s) ∧ ∃ pl' nx' tk' va' : Int32, pm_call 19 [.ref 20, .int lo, .int hi] (pm_Rw (pm_YW w z Y) fk fp pl (nI p) tk va) = some (some (.int 0), pm_Rw (pm_YW w z Y) (nI k) (nI s) pl' nx' tk' va')) ∨
    (∃ v r, tz_num c t lo hi p = .inr (v, r) ∧ r ≤ t ∧ ¬ v < lo ∧ ¬ hi < v ∧ ∃ pl' tk' : Int32, pm_call 19 [.ref 20, .int lo, .int hi] (pm_Rw (pm_YW w z Y) fk fp pl (nI p) tk va) = some (some (.int 1), pm_Rw (pm_YW w z Y) fk fp pl' (nI r) tk' v)) := by
  obtain ⟨n1, n2⟩ := c_number (w := pm_YW w z Y) (fk := fk) (fp := fp) (pl := pl) (tk := tk) (va := va) (cYW10 hz h10) (cYW11 hz h11) hB ht hp (lo := lo) (hi := hi)
  cases e : tz_num c t lo hi p with
  | inl f => exact Or.inl ⟨f.1, f.2, rfl, n1 f.1 f.2 e⟩
  | inr x =>
    have := tz_num_le (v := x.1) (r := x.2) hp e
    exact Or.inr ⟨x.1, x.2, rfl, this.1, this.2.1, this.2.2, n2 x.1 x.2 e⟩
theorem c_semiD (hz : 48 < z) (h10 : w 10 = some (.inr (3, [.ref 11, .int (nI t)]))) (h11 : w 11 = some (.inl (2, 740, .inl B))) (hB : tz_B B c t) (ht : t ≤ 740) (hp : p ≤ t) :
    (∃ k s, tz_semi c t p = .inl (k, s) ∧ ∃ pl' nx' tk' va' : Int32, pm_call 20 [.ref 20] (pm_Rw (pm_YW w z Y) fk fp pl (nI p) tk va) = some (some (.int 0), pm_Rw (pm_YW w z Y) (nI k) (nI s) pl' nx' tk' va')) ∨
    (∃ r, tz_semi c t p = .inr r ∧ r ≤ t ∧ ∃ pl' tk' va' : Int32, pm_call 20 [.ref 20] (pm_Rw (pm_YW w z Y) fk fp pl (nI p) tk va) = some (some (.int 1), pm_Rw (pm_YW w z Y) fk fp pl' (nI r) tk' va')) := by
  obtain ⟨n1, n2⟩ := c_semi (w := pm_YW w z Y) (fk := fk) (fp := fp) (pl := pl) (tk := tk) (va := va) (cYW10 hz h10) (cYW11 hz h11) hB ht hp
  cases e : tz_semi c t p with
  | inl f => exact Or.inl ⟨f.1, f.2, rfl, n1 f.1 f.2 e⟩
  | inr x => exact Or.inr ⟨x, rfl, tz_semi_le hp e, n2 x e⟩
theorem c_wordD (hz : 48 < z) (h10 : w 10 = some (.inr (3, [.ref 11, .int (nI t)]))) (h11 : w 11 = some (.inl (2, 740, .inl B))) (hB : tz_B B c t) (ht : t ≤ 740) (hp : p ≤ t) (hj : j < 11) :
    (∃ k s, tz_word c t j p = .inl (k, s) ∧ ∃ pl' nx' tk' va' : Int32, pm_call 22 [.ref 20, .ref (1000 + j)] (pm_Rw (pm_YW w z Y) fk fp pl (nI p) tk va) = some (some (.int 0), pm_Rw (pm_YW w z Y) (nI k) (nI s) pl' nx' tk' va')) ∨
    (∃ r, tz_word c t j p = .inr r ∧ r ≤ t ∧ ∃ pl' tk' va' : Int32, pm_call 22 [.ref 20, .ref (1000 + j)] (pm_Rw (pm_YW w z Y) fk fp pl (nI p) tk va) = some (some (.int 1), pm_Rw (pm_YW w z Y) fk fp pl' (nI r) tk' va')) := by
  obtain ⟨n1, n2⟩ := c_word (w := pm_YW w z Y) (fk := fk) (fp := fp) (pl := pl) (tk := tk) (va := va) (cYW10 hz h10) (cYW11 hz h11) hB ht hp hj
  cases e : tz_word c t j p with
  | inl f => exact Or.inl ⟨f.1, f.2, rfl, n1 f.1 f.2 e⟩
  | inr x => exact Or.inr ⟨x, rfl, tz_word_le hp e, n2 x e⟩
theorem c_stepD (hz : 48 < z) (h10 : w 10 = some (.inr (3, [.ref 11, .int (nI t)]))) (h11 : w 11 = some (.inl (2, 740, .inl B))) (hB : tz_B B c t) (ht : t ≤ 740) (hp : p ≤ t) : ∃ pl' nx' tk' va' : Int32, pm_call 13 [.ref 20] (pm_Rw (pm_YW w z Y) fk fp pl (nI p) tk va) = some (none, pm_Rw (pm_YW w z Y) fk fp pl' nx' tk' va') ∧ tz_ccur c t p pl' nx' tk' va' :=
  c_step (cYW10 hz h10) (cYW11 hz h11) hB ht hp
theorem c_iswD (hz : 48 < z) (h10 : w 10 = some (.inr (3, [.ref 11, .int (nI t)]))) (h11 : w 11 = some (.inl (2, 740, .inl B))) (hB : tz_B B c t) (ht : t ≤ 740) (hp : p ≤ t) (hj : j < 11) (hc : tz_ccur c t p pl nx tk va) :
    (tz_isw c t p j → pm_call 18 [.ref 20, .ref (1000 + j)] (pm_Rw (pm_YW w z Y) fk fp pl nx tk va) = some (some (.int 1), pm_Rw (pm_YW w z Y) fk fp pl nx tk va)) ∧ (¬ tz_isw c t p j → pm_call 18 [.ref 20, .ref (1000 + j)] (pm_Rw (pm_YW w z Y) fk fp pl nx tk va) = some (some (.int 0), pm_Rw (pm_YW w z Y) fk fp pl nx tk va)) :=
  c_isWord (cYW10 hz h10) (cYW11 hz h11) hB ht hp hj hc
/-- a quarter behind 'profit' or 'loss' -/
def ab_qt (Y : Nat → Nat → Int32) (q : Nat) (v u : Int32) : Nat → Nat → Int32 := ab_set (ab_set Y 1 (upd (Y 1) q v)) 2 (upd (Y 2) q u)
theorem c_quarterP (hz : 48 < z) (h10 : w 10 = some (.inr (3, [.ref 11, .int (nI t)]))) (h11 : w 11 = some (.inl (2, 740, .inl B))) (hB : tz_B B c t) (ht : t ≤ 740) (hp : p ≤ t) {q : Nat} (hq : q < 4) {g : Int32} :
    (∃ k s, tz_qP c t p = .inl (k, s) ∧ ∃ (Y' : Nat → Nat → Int32) (pl' nx' tk' va' : Int32), pm_ev 21 41 [some (.ref 20), some (.ref z), some (.int (nI q)), some (.int g)] [] (pm_Rw (pm_YW w z Y) fk fp pl (nI p) tk va) = some (some (.int 0), pm_Rw (pm_YW w z Y') (nI k) (nI s) pl' nx' tk' va')) ∨
    (∃ v u r, tz_qP c t p = .inr (v, u, r) ∧ r ≤ t ∧ ¬ v < 0 ∧ ¬ 99999 < v ∧ ¬ u < 1 ∧ ¬ 9999 < u ∧ ∃ pl' tk' va' : Int32, pm_ev 21 41 [some (.ref 20), some (.ref z), some (.int (nI q)), some (.int g)] [] (pm_Rw (pm_YW w z Y) fk fp pl (nI p) tk va) = some (some (.int 1), pm_Rw (pm_YW w z (ab_qt Y q (if g = 0 then v else -v) u)) fk fp pl' (nI r) tk' va')) := by
  have hin : vp_in (nI q) 4 := vp_in_nI hq (by omega)
  unfold tz_qP
  rcases c_numD (Y := Y) (fk := fk) (fp := fp) (pl := pl) (tk := tk) (va := va) (lo := 0) (hi := 99999) hz h10 h11 hB ht hp with ⟨k, s, e, pl', nx', tk', va', h⟩ | ⟨v, r3, e, hr3, v1, v2, pl', tk', h⟩
  · left
    refine ⟨k, s, by rw [e], Y, pl', nx', tk', va', ?_⟩
    simp only [z21_41, z21_42, z21_43, z21_45, z21_48, pm_kv_some, pm_kw_some, pm_k_some, pm_k_void, pm_vc_some, pm_kl_some, rw20, h]
    rw [if_pos trivial]
    simp only [z21_51, z21_52, pm_zr0]
  · have st : pm_ev 21 41 [some (.ref 20), some (.ref z), some (.int (nI q)), some (.int g)] [] (pm_Rw (pm_YW w z Y) fk fp pl (nI p) tk va) = pm_ev 21 75 [some (.ref 20), some (.ref z), some (.int (nI q)), some (.int g)] [] (pm_Rw (pm_YW w z (ab_set Y 1 (upd (Y 1) q (if g = 0 then v else -v)))) fk fp pl' (nI r3) tk' v) := by
      have hY : pm_Yr (pm_Rw (pm_YW w z Y) fk fp pl' (nI r3) tk' v) z Y := rwYr hz
      obtain ⟨y0, y1, y2, -⟩ := hY
      simp only [z21_41, z21_42, z21_43, z21_45, z21_48, pm_kv_some, pm_kw_some, pm_k_some, pm_k_void, pm_vc_some, pm_kl_some, rw20, h]
      rw [if_neg (by decide)]
      simp only [z21_53, z21_54, z21_57, z21_58, z21_59, pm_kv_some, pm_kw_some, pm_k_some, pm_k_void, pm_vc_some, pm_kl_some, pg4_0, pg4_1, pg4_2, pg4_3, pg4_4, pg4_5, pg4_6, pg4_7, pg4_8, pg4_9, pg4_10, pg4_11, y0]
      by_cases eg : g = 0
      · rw [if_pos eg, if_pos eg]
        simp only [z21_70, z21_71, z21_74, pm_kv_some, pm_kw_some, pm_k_some, pm_k_void, pm_vc_some, pm_kl_some, pg2_0, pg2_1, pg2_2, pg2_3, pg2_4, pg2_5, pg2_6, rw20, y1, pm_is_in hin, nI_clamp (show q < 2 ^ 31 by omega), c_put1 hz]
      · rw [if_neg eg, if_neg eg]
        simp only [z21_62, z21_63, z21_66, z21_67, z21_74, pm_kv_some, pm_kw_some, pm_k_some, pm_k_void, pm_vc_some, pm_kl_some, pg2_0, pg2_1, pg2_2, pg2_3, pg2_4, pg2_5, pg2_6, rw20, y1, pm_is_in hin, nI_clamp (show q < 2 ^ 31 by omega), c_put1 hz]
    rw [st]
    simp only [e]
    generalize hv' : (if g = 0 then v else -v) = v'
    rcases c_wordD (Y := ab_set Y 1 (upd (Y 1) q v')) (fk := fk) (fp := fp) (pl := pl') (tk := tk') (va := v) (j := 4) hz h10 h11 hB ht hr3 (by omega) with ⟨k, s, e2, pl2, nx2, tk2, va2, h2⟩ | ⟨r4, e2, hr4, pl2, tk2, va2, h2⟩
    · left
      refine ⟨k, s, by rw [e2], ab_set Y 1 (upd (Y 1) q v'), pl2, nx2, tk2, va2, ?_⟩
      simp only [z21_75, z21_76, z21_78, z21_81, pm_kv_some, pm_kw_some, pm_k_some, pm_k_void, pm_vc_some, pm_kl_some, rw20, h2]
      rw [if_pos trivial]
      simp only [z21_95, z21_96, pm_zr0]
    · simp only [e2]
      rcases c_numD (Y := ab_set Y 1 (upd (Y 1) q v')) (fk := fk) (fp := fp) (pl := pl2) (tk := tk2) (va := va2) (lo := 1) (hi := 9999) hz h10 h11 hB ht hr4 with ⟨k, s, e3, pl3, nx3, tk3, va3, h3⟩ | ⟨u, r5, e3, hr5, u1, u2, pl3, tk3, h3⟩
      · left
        refine ⟨k, s, by rw [e3], ab_set Y 1 (upd (Y 1) q v'), pl3, nx3, tk3, va3, ?_⟩
        simp only [z21_75, z21_76, z21_78, z21_81, pm_kv_some, pm_kw_some, pm_k_some, pm_k_void, pm_vc_some, pm_kl_some, rw20, h2]
        rw [if_neg (by decide)]
        simp only [z21_84, z21_85, z21_86, z21_89, z21_92, pm_kv_some, pm_kw_some, pm_k_some, pm_k_void, pm_vc_some, pm_kl_some, rw20, h3]
        rw [if_pos trivial]
        simp only [z21_95, z21_96, pm_zr0]
      · simp only [e3]
        have hY : pm_Yr (pm_Rw (pm_YW w z (ab_set Y 1 (upd (Y 1) q v'))) fk fp pl3 (nI r5) tk3 u) z (ab_set Y 1 (upd (Y 1) q v')) := rwYr hz
        obtain ⟨y0, y1, y2, -⟩ := hY
        have y2' : pm_Rw (pm_YW w z (ab_set Y 1 (upd (Y 1) q v'))) fk fp pl3 (nI r5) tk3 u (z + 3) = some (.inl (0, 4, .inl (Y 2))) := y2
        have st2 : pm_ev 21 75 [some (.ref 20), some (.ref z), some (.int (nI q)), some (.int g)] [] (pm_Rw (pm_YW w z (ab_set Y 1 (upd (Y 1) q v'))) fk fp pl' (nI r3) tk' v) = pm_ev 21 107 [some (.ref 20), some (.ref z), some (.int (nI q)), some (.int g)] [] (pm_Rw (pm_YW w z (ab_qt Y q v' u)) fk fp pl3 (nI r5) tk3 u) := by
          simp only [z21_75, z21_76, z21_78, z21_81, pm_kv_some, pm_kw_some, pm_k_some, pm_k_void, pm_vc_some, pm_kl_some, rw20, h2]
          rw [if_neg (by decide)]
          simp only [z21_84, z21_85, z21_86, z21_89, z21_92, pm_kv_some, pm_kw_some, pm_k_some, pm_k_void, pm_vc_some, pm_kl_some, rw20, h3]
          rw [if_neg (by decide)]
          simp only [z21_97, z21_98, z21_101, z21_102, z21_103, z21_106, pm_kv_some, pm_kw_some, pm_k_some, pm_k_void, pm_vc_some, pm_kl_some, pg2_0, pg2_1, pg2_2, pg2_3, pg2_4, pg2_5, pg2_6, pg4_0, pg4_1, pg4_2, pg4_3, pg4_4, pg4_5, pg4_6, pg4_7, pg4_8, pg4_9, pg4_10, pg4_11, rw20, y0, y2', pm_is_in hin, nI_clamp (show q < 2 ^ 31 by omega), c_put2 hz]
          rfl
        rw [st2]
        rcases c_semiD (Y := ab_qt Y q v' u) (fk := fk) (fp := fp) (pl := pl3) (tk := tk3) (va := u) hz h10 h11 hB ht hr5 with ⟨k, s, e4, pl4, nx4, tk4, va4, h4⟩ | ⟨r6, e4, hr6, pl4, tk4, va4, h4⟩
        · left
          refine ⟨k, s, by rw [e4], ab_qt Y q v' u, pl4, nx4, tk4, va4, ?_⟩
          simp only [z21_107, z21_108, z21_111, pm_kv_some, pm_kw_some, pm_k_some, pm_k_void, pm_vc_some, pm_kl_some, rw20, h4, pm_zr0]
        · right
          refine ⟨v, u, r6, by rw [e4], hr6, v1, v2, u1, u2, pl4, tk4, va4, ?_⟩
          simp only [z21_107, z21_108, z21_111, pm_kv_some, pm_kw_some, pm_k_some, pm_k_void, pm_vc_some, pm_kl_some, rw20, h4, pm_zr1]
          rw [hv']
/-- a whole quarter: its word, profit or loss -/
noncomputable def tz_quP (c : Nat → Nat) (t p : Nat) : (Nat × Nat) ⊕ (Int32 × Int32 × Nat) := match tz_word c t 1 p with
  | .inl f => .inl f
  | .inr r1 => match tz_word c t 2 r1 with
    | .inr r2 => (match tz_qP c t r2 with
      | .inl f => .inl f
      | .inr (v, u, r) => .inr (-v, u, r))
    | .inl _ => match tz_word c t 3 r1 with
      | .inl f => .inl f
      | .inr r2 => tz_qP c t r2
theorem c_quarter (hz : 48 < z) (h10 : w 10 = some (.inr (3, [.ref 11, .int (nI t)]))) (h11 : w 11 = some (.inl (2, 740, .inl B))) (hB : tz_B B c t) (ht : t ≤ 740) (hp : p ≤ t) {q : Nat} (hq : q < 4) :
    (∃ k s, tz_quP c t p = .inl (k, s) ∧ ∃ (Y' : Nat → Nat → Int32) (pl' nx' tk' va' : Int32), pm_call 21 [.ref 20, .ref z, .int (nI q)] (pm_Rw (pm_YW w z Y) fk fp pl (nI p) tk va) = some (some (.int 0), pm_Rw (pm_YW w z Y') (nI k) (nI s) pl' nx' tk' va')) ∨
    (∃ v u r, tz_quP c t p = .inr (v, u, r) ∧ r ≤ t ∧ ab_I v (-99999) 99999 ∧ ab_I u 1 9999 ∧ ∃ pl' tk' va' : Int32, pm_call 21 [.ref 20, .ref z, .int (nI q)] (pm_Rw (pm_YW w z Y) fk fp pl (nI p) tk va) = some (some (.int 1), pm_Rw (pm_YW w z (ab_qt Y q v u)) fk fp pl' (nI r) tk' va')) := by
  have iu : ∀ u : Int32, ¬ u < 1 → ¬ 9999 < u → ab_I u 1 9999 := by
    intro u u1 u2
    rw [i3_lt] at u1 u2
    exact ⟨by have : ¬ u.toInt < (1 : Int) := u1; omega, by have : ¬ (9999 : Int) < u.toInt := u2; omega⟩
  have iv : ∀ v : Int32, ¬ v < 0 → ¬ 99999 < v → 0 ≤ v.toInt ∧ v.toInt ≤ 99999 := by
    intro v u1 u2
    rw [i3_lt] at u1 u2
    exact ⟨by have : ¬ v.toInt < (0 : Int) := u1; omega, by have : ¬ (99999 : Int) < v.toInt := u2; omega⟩
  have ineg : ∀ v : Int32, 0 ≤ v.toInt → v.toInt ≤ 99999 → ab_I (-v) (-99999) 99999 := by
    intro v v1 v2
    have e : (-v).toInt = -v.toInt := by rw [Int32.toInt_neg, Int.bmod_def]; omega
    exact ⟨by omega, by omega⟩
  unfold tz_quP
  rcases c_wordD (Y := Y) (fk := fk) (fp := fp) (pl := pl) (tk := tk) (va := va) (j := 1) hz h10 h11 hB ht hp (by omega) with ⟨k, s, e1, pl1, nx1, tk1, va1, h1⟩ | ⟨r1, e1, hr1, pl1, tk1, va1, h1⟩
  · left
    refine ⟨k, s, by rw [e1], Y, pl1, nx1, tk1, va1, ?_⟩
    simp only [pe21, z21_0, z21_1, z21_3, z21_6, pm_kv_some, pm_kw_some, pm_k_some, pm_k_void, pm_vc_some, pm_kl_some, rw20, h1]
    rw [if_pos trivial]
    simp only [z21_9, z21_10, pm_zr0]
  · simp only [e1]
    obtain ⟨pl2, nx2, tk2, va2, h2, hc⟩ := c_stepD (Y := Y) (fk := fk) (fp := fp) (pl := pl1) (tk := tk1) (va := va1) hz h10 h11 hB ht hr1
    obtain ⟨l1, l2⟩ := c_iswD (Y := Y) (fk := fk) (fp := fp) (j := 2) hz h10 h11 hB ht hr1 (by omega) hc
    obtain ⟨f1, f2⟩ := c_iswD (Y := Y) (fk := fk) (fp := fp) (j := 3) hz h10 h11 hB ht hr1 (by omega) hc
    cases e2 : tz_word c t 2 r1 with
    | inr r2 =>
      simp only [e2]
      obtain ⟨i1, i2⟩ := tz_word_t e2
      have hr2 := tz_word_le hr1 e2
      have st : pm_call 21 [.ref 20, .ref z, .int (nI q)] (pm_Rw (pm_YW w z Y) fk fp pl (nI p) tk va) = pm_ev 21 41 [some (.ref 20), some (.ref z), some (.int (nI q)), some (.int 1)] [] (pm_Rw (pm_YW w z Y) fk fp pl2 (nI r2) tk2 va2) := by
        simp only [pe21, z21_0, z21_1, z21_3, z21_6, pm_kv_some, pm_kw_some, pm_k_some, pm_k_void, pm_vc_some, pm_kl_some, rw20, h1]
        rw [if_neg (by decide)]
        simp only [z21_11, z21_12, z21_15, z21_16, z21_18, z21_21, z21_22, z21_23, pm_kv_some, pm_kw_some, pm_k_some, pm_k_void, pm_vc_some, pm_kl_some, rw20, h2, l1 i1]
        rw [if_neg (by decide), i2, ← hc.2.2.1 (Or.inl i1.1)]
      rw [st]
      rcases c_quarterP (Y := Y) (fk := fk) (fp := fp) (pl := pl2) (tk := tk2) (va := va2) (g := 1) hz h10 h11 hB ht hr2 hq with ⟨k, s, e3, Y', pl', nx', tk', va', h3⟩ | ⟨v, u, r, e3, hr, v1, v2, u1, u2, pl', tk', va', h3⟩
      · exact Or.inl ⟨k, s, by rw [e3], Y', pl', nx', tk', va', h3⟩
      · obtain ⟨w1, w2⟩ := iv v v1 v2
        exact Or.inr ⟨-v, u, r, by rw [e3], hr, ineg v w1 w2, iu u u1 u2, pl', tk', va', h3⟩
    | inl f =>
      simp only [e2]
      obtain ⟨i1, -, -⟩ := tz_word_f (k := f.1) (s := f.2) e2
      have st0 : pm_call 21 [.ref 20, .ref z, .int (nI q)] (pm_Rw (pm_YW w z Y) fk fp pl (nI p) tk va) = pm_ev 21 26 [some (.ref 20), some (.ref z), some (.int (nI q)), some (.int 0)] [] (pm_Rw (pm_YW w z Y) fk fp pl2 nx2 tk2 va2) := by
        simp only [pe21, z21_0, z21_1, z21_3, z21_6, pm_kv_some, pm_kw_some, pm_k_some, pm_k_void, pm_vc_some, pm_kl_some, rw20, h1]
        rw [if_neg (by decide)]
        simp only [z21_11, z21_12, z21_15, z21_16, z21_18, z21_21, z21_22, z21_23, pm_kv_some, pm_kw_some, pm_k_some, pm_k_void, pm_vc_some, pm_kl_some, rw20, h2, l2 i1]
        rw [if_pos trivial]
      rw [st0]
      cases e4 : tz_word c t 3 r1 with
      | inl f4 =>
        simp only [e4]
        obtain ⟨k4, s4⟩ := f4
        obtain ⟨j1, j2, j3⟩ := tz_word_f e4
        left
        refine ⟨k4, s4, rfl, Y, pl2, nx2, tk2, va2, ?_⟩
        simp only [z21_26, z21_27, z21_29, z21_32, pm_kv_some, pm_kw_some, pm_k_some, pm_k_void, pm_vc_some, pm_kl_some, rw20, f2 j1]
        rw [if_pos trivial]
        simp only [z21_35, z21_36, z21_37, z21_40, pm_kv_some, pm_kw_some, pm_k_some, pm_k_void, pm_vc_some, pm_kl_some, rw20, q_fail, pm_zr0]
        rw [j2, j3, ← hc.1]; rfl
      | inr r2 =>
        simp only [e4]
        obtain ⟨j1, j2⟩ := tz_word_t e4
        have hr2 := tz_word_le hr1 e4
        have st : pm_ev 21 26 [some (.ref 20), some (.ref z), some (.int (nI q)), some (.int 0)] [] (pm_Rw (pm_YW w z Y) fk fp pl2 nx2 tk2 va2) = pm_ev 21 41 [some (.ref 20), some (.ref z), some (.int (nI q)), some (.int 0)] [] (pm_Rw (pm_YW w z Y) fk fp pl2 (nI r2) tk2 va2) := by
          simp only [z21_26, z21_27, z21_29, z21_32, pm_kv_some, pm_kw_some, pm_k_some, pm_k_void, pm_vc_some, pm_kl_some, rw20, f1 j1]
          rw [if_neg (by decide), j2, ← hc.2.2.1 (Or.inl j1.1)]
        rw [st]
        rcases c_quarterP (Y := Y) (fk := fk) (fp := fp) (pl := pl2) (tk := tk2) (va := va2) (g := 0) hz h10 h11 hB ht hr2 hq with ⟨k, s, e3, Y', pl', nx', tk', va', h3⟩ | ⟨v, u, r, e3, hr, v1, v2, u1, u2, pl', tk', va', h3⟩
        · exact Or.inl ⟨k, s, e3, Y', pl', nx', tk', va', h3⟩
        · obtain ⟨w1, w2⟩ := iv v v1 v2
          exact Or.inr ⟨v, u, r, e3, hr, ⟨by omega, w2⟩, iu u u1 u2, pl', tk', va', h3⟩
end PCM
