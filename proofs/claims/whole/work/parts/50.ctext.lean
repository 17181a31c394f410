/-! THE TEXT: the class's part -/
noncomputable def tz_lp (c : Nat → Nat) (t : Nat) : Nat → (Nat → Nat → Int32) → Nat → Nat → Nat → (Nat × Nat) ⊕ ((Nat → Nat → Int32) × Nat × Nat)
  | 0, _, _, _, _ => .inl (1, 0)
  | m + 1, Y, n, N, p => if (tz_t c t p).1 = 0 then .inr (Y, n, N) else match tz_otP c t Y n N p with
    | .inl f => .inl f
    | .inr (Y', n', N', r) => tz_lp c t m Y' n' N' r
noncomputable def tz_q4 (c : Nat → Nat) (t : Nat) : Nat → Nat → (Nat → Nat → Int32) → Nat → (Nat × Nat) ⊕ ((Nat → Nat → Int32) × Nat)
  | 0, _, Y, p => .inr (Y, p)
  | m + 1, q, Y, p => match tz_quP c t p with
    | .inl f => .inl f
    | .inr (v, u, r) => tz_q4 c t m (q + 1) (ab_qt Y q v u) r
noncomputable def tz_tx (c : Nat → Nat) (t : Nat) (Y : Nat → Nat → Int32) : (Nat × Nat) ⊕ ((Nat → Nat → Int32) × Nat × Nat × Nat) :=
  if (tz_t c t 0).1 = 0 then .inr (Y, 0, 0, 0) else match tz_word c t 0 0 with
    | .inl f => .inl f
    | .inr r => match tz_shP c t r with
      | .inl f => .inl f
      | .inr (v, r1) => match tz_q4 c t 4 0 (ab_set Y 0 (fun _ => v)) r1 with
        | .inl f => .inl f
        | .inr (Y1, r2) => match tz_lp c t 29 Y1 0 0 r2 with
          | .inl f => .inl f
          | .inr (Y2, n, N) => .inr (Y2, n, N, 5 + n + N)
/-- a fault has a kind -/
def tz_ok {α : Type} (x : (Nat × Nat) ⊕ α) : Prop := ∀ f, x = .inl f → 1 ≤ f.1 ∧ f.1 ≤ 3
section TZK
variable {c : Nat → Nat} {t : Nat}
theorem tz_ok_num {lo hi : Int32} {p : Nat} : tz_ok (tz_num c t lo hi p) := by
  intro f h
  unfold tz_num at h
  split at h
  · split at h
    · cases h; exact ⟨Nat.le_of_ble_eq_true rfl, Nat.le_of_ble_eq_true rfl⟩
    · cases h
  · cases h; exact ⟨Nat.le_of_ble_eq_true rfl, Nat.le_of_ble_eq_true rfl⟩
theorem tz_ok_semi {p : Nat} : tz_ok (tz_semi c t p) := by
  intro f h
  unfold tz_semi at h
  split at h
  · cases h
  · cases h; exact ⟨Nat.le_of_ble_eq_true rfl, Nat.le_of_ble_eq_true rfl⟩
theorem tz_ok_word {j p : Nat} : tz_ok (tz_word c t j p) := by
  intro f h
  obtain ⟨k, s⟩ := f
  rw [(tz_word_f h).2.1]; exact ⟨Nat.le_of_ble_eq_true rfl, Nat.le_of_ble_eq_true rfl⟩
theorem tz_ok_evP {ld lo mo : Int32} {p : Nat} : tz_ok (tz_evP c t ld lo mo p) := by
  intro f h
  unfold tz_evP at h
  split at h
  · rename_i e; cases h; exact tz_ok_num _ e
  · split at h
    · rename_i e; cases h; exact tz_ok_num _ e
    · split at h
      · rename_i e; cases h; exact tz_ok_semi _ e
      · cases h
theorem tz_ok_tmP {so : Int32} {p : Nat} : tz_ok (tz_tmP c t so p) := by
  intro f h
  unfold tz_tmP at h
  split at h
  · rename_i e; cases h; exact tz_ok_num _ e
  · split at h
    · rename_i e; cases h; exact tz_ok_semi _ e
    · cases h
theorem tz_ok_inP {so d u : Int32} {p : Nat} : tz_ok (tz_inP c t so d u p) := by
  intro f h
  unfold tz_inP at h
  split at h
  · rename_i e; cases h; exact tz_ok_tmP _ e
  · cases h
theorem tz_ok_igP {s : Int32} {p : Nat} : tz_ok (tz_igP c t s p) := by
  intro f h
  unfold tz_igP at h
  split at h
  · rename_i e; cases h; exact tz_ok_num _ e
  · split at h
    · rename_i e; cases h; exact tz_ok_num _ e
    · split at h
      · split at h
        · exact tz_ok_inP _ h
        · split at h
          · rename_i e; cases h; exact tz_ok_word _ e
          · exact tz_ok_inP _ h
      · exact tz_ok_inP _ h
theorem tz_ok_evO {Y : Nat → Nat → Int32} {n N : Nat} {s : Int32} {st r : Nat} : tz_ok (tz_evO c t Y n N s st r) := by
  intro f h
  unfold tz_evO at h
  split at h
  · split at h
    · rename_i e; cases h; exact tz_ok_evP _ e
    · cases h
  · cases h; exact ⟨Nat.le_of_ble_eq_true rfl, Nat.le_of_ble_eq_true rfl⟩
theorem tz_ok_inO {Y : Nat → Nat → Int32} {n N : Nat} {s : Int32} {st r : Nat} : tz_ok (tz_inO c t Y n N s st r) := by
  intro f h
  unfold tz_inO at h
  split at h
  · split at h
    · rename_i e; cases h; exact tz_ok_igP _ e
    · cases h
  · cases h; exact ⟨Nat.le_of_ble_eq_true rfl, Nat.le_of_ble_eq_true rfl⟩
theorem tz_ok_otP {Y : Nat → Nat → Int32} {n N p : Nat} : tz_ok (tz_otP c t Y n N p) := by
  intro f h
  unfold tz_otP at h
  split at h
  · exact tz_ok_evO _ h
  · split at h
    · exact tz_ok_evO _ h
    · split at h
      · exact tz_ok_evO _ h
      · split at h
        · exact tz_ok_inO _ h
        · split at h
          · exact tz_ok_inO _ h
          · split at h
            · exact tz_ok_inO _ h
            · rename_i e; cases h; exact tz_ok_word _ e
theorem tz_ok_lp : ∀ (m : Nat) (Y : Nat → Nat → Int32) (n N p : Nat), tz_ok (tz_lp c t m Y n N p) := by
  intro m
  induction m with
  | zero => intro Y n N p f h; cases h; exact ⟨Nat.le_of_ble_eq_true rfl, Nat.le_of_ble_eq_true rfl⟩
  | succ m ih =>
    intro Y n N p f h
    rw [tz_lp] at h
    split at h
    · cases h
    · split at h
      · rename_i e; cases h; exact tz_ok_otP _ e
      · exact ih _ _ _ _ _ h
theorem tz_ok_qP {p : Nat} : tz_ok (tz_qP c t p) := by
  intro f h
  unfold tz_qP at h
  split at h
  · rename_i e; cases h; exact tz_ok_num _ e
  · split at h
    · rename_i e; cases h; exact tz_ok_word _ e
    · split at h
      · rename_i e; cases h; exact tz_ok_num _ e
      · split at h
        · rename_i e; cases h; exact tz_ok_semi _ e
        · cases h
theorem tz_ok_quP {p : Nat} : tz_ok (tz_quP c t p) := by
  intro f h
  unfold tz_quP at h
  split at h
  · rename_i e; cases h; exact tz_ok_word _ e
  · split at h
    · split at h
      · rename_i e; cases h; exact tz_ok_qP _ e
      · cases h
    · split at h
      · rename_i e; cases h; exact tz_ok_word _ e
      · exact tz_ok_qP _ h
theorem tz_ok_q4 : ∀ (m q : Nat) (Y : Nat → Nat → Int32) (p : Nat), tz_ok (tz_q4 c t m q Y p) := by
  intro m
  induction m with
  | zero => intro q Y p f h; cases h
  | succ m ih =>
    intro q Y p f h
    rw [tz_q4] at h
    split at h
    · rename_i e; cases h; exact tz_ok_quP _ e
    · exact ih _ _ _ _ h
theorem tz_ok_shP {p : Nat} : tz_ok (tz_shP c t p) := by
  intro f h
  unfold tz_shP at h
  split at h
  · rename_i e; cases h; exact tz_ok_num _ e
  · split at h
    · rename_i e; cases h; exact tz_ok_semi _ e
    · cases h
theorem tz_ok_tx {Y : Nat → Nat → Int32} : tz_ok (tz_tx c t Y) := by
  intro f h
  unfold tz_tx at h
  split at h
  · cases h
  · split at h
    · rename_i e; cases h; exact tz_ok_word _ e
    · split at h
      · rename_i e; cases h; exact tz_ok_shP _ e
      · split at h
        · rename_i e; cases h; exact tz_ok_q4 _ _ _ _ _ e
        · split at h
          · rename_i e; cases h; exact tz_ok_lp _ _ _ _ _ _ e
          · cases h
theorem tz_shP_le {p r : Nat} {v : Int32} (hp : p ≤ t) (h : tz_shP c t p = .inr (v, r)) : r ≤ t ∧ ¬ v < 1 ∧ ¬ 99999 < v := by
  unfold tz_shP at h
  split at h
  · cases h
  · rename_i v1 r2 e
    obtain ⟨h1, h2, h3⟩ := tz_num_le hp e
    split at h
    · cases h
    · rename_i r3 e2
      cases h
      exact ⟨tz_semi_le h1 e2, h2, h3⟩
/-- no word at the end -/
theorem tz_noword {p j : Nat} (h : ¬ (tz_t c t p).1 = 1) : tz_word c t j p = .inl (1, (tz_t c t p).2.1) := by
  unfold tz_word
  exact if_neg (fun z => h z.1)
theorem tz_otP_end {Y : Nat → Nat → Int32} {n N p : Nat} (h : ¬ (tz_t c t p).1 = 1) : tz_otP c t Y n N p = .inl (1, (tz_t c t p).2.1) := by
  unfold tz_otP
  simp only [tz_noword h]
theorem tz_t5 {p : Nat} (hp : p ≤ t) : ((tz_t c t p).1 = 5 → (tz_t c t p).2.1 = 700 ∧ 700 < t) ∧ ((tz_t c t p).1 = 0 → (tz_t c t p).2.1 = t ∧ t ≤ 700) := by
  have h := tz_t_at (c := c) hp
  unfold tz_at at h
  refine ⟨fun e => ?_, fun e => ?_⟩
  · rcases h with h | h | h
    · exact ⟨h.2.1, h.2.2.1⟩
    · exact absurd (e.symm.trans h.1) (by decide)
    · exact absurd e h.1
  · rcases h with h | h | h
    · exact absurd (e.symm.trans h.1) (by decide)
    · exact ⟨h.2.1, h.2.2.1⟩
    · exact absurd e h.2.1
end TZK
/-- a Year as at first, what is dead left as it was -/
def ab_rst (Z : Nat → Nat → Int32) : Nat → Nat → Int32 := ab_y 1 (ab_fill (Z 1) 0 4) (ab_fill (Z 2) 1 4) 0 (Z 4) (Z 5) (Z 6) 0 (Z 8) (Z 9) (Z 10) (Z 11)
theorem i3_m {v : Int32} (h1 : ¬ v < 1) (h2 : ¬ 99999 < v) : ab_I v 1 99999 := by
  have a := mt i3_lt.mpr h1
  have b := mt i3_lt.mpr h2
  have e1 : (1 : Int32).toInt = 1 := by decide
  have e2 : (99999 : Int32).toInt = 99999 := by decide
  rw [e1] at a
  rw [e2] at b
  exact ⟨by omega, by omega⟩
theorem ab_rst_wf {Z : Nat → Nat → Int32} : ab_wf (ab_rst Z) 0 0 := by
  refine ⟨⟨by omega, by omega, rfl, rfl⟩, ⟨show (1 : Int) ≤ (1 : Int32).toInt by decide, show (1 : Int32).toInt ≤ 99999 by decide⟩, fun q hq => ⟨?_, ?_⟩, fun k hk => absurd hk (by omega), fun j k _ hk => absurd hk (by omega), Nat.zero_le _, fun k hk => ?_, fun i hi => absurd hi (by omega)⟩
  · show ab_I (ab_fill (Z 1) 0 4 q) _ _
    unfold ab_fill
    rw [if_pos hq]
    exact ⟨by decide, by decide⟩
  · show ab_I (ab_fill (Z 2) 1 4 q) _ _
    unfold ab_fill
    rw [if_pos hq]
    exact ⟨by decide, by decide⟩
  · have : k = 0 := by omega
    subst this
    show (1 : Int) ≤ (1 : Int32).toInt
    decide
theorem ab_wf_sh {Y : Nat → Nat → Int32} (h : ab_wf Y 0 0) {v : Int32} (hv : ab_I v 1 99999) : ab_wf (ab_set Y 0 (fun _ => v)) 0 0 := by
  refine ⟨h.1, hv, h.iq, fun k hk => absurd hk (by omega), fun j k _ hk => absurd hk (by omega), Nat.zero_le _, fun k hk => ?_, fun i hi => absurd hi (by omega)⟩
  have : k = 0 := by omega
  subst this
  exact hv.1
theorem ab_wf_qt {Y : Nat → Nat → Int32} {n N q : Nat} (h : ab_wf Y n N) {v u : Int32} (hv : ab_I v (-99999) 99999) (hu : ab_I u 1 9999) : ab_wf (ab_qt Y q v u) n N := by
  have := (h.profit (q := q) hv).price (q := q) hu
  exact this
section PCT
variable {w : pm_H} {fk fp pl nx tk va : Int32} {c : Nat → Nat} {B : Nat → Int32} {t p j z n N : Nat} {Y Z : Nat → Nat → Int32}
theorem c_reset (hz : 48 < z) : pm_call 29 [.ref z] (pm_Rw (pm_YW w z Z) fk fp pl nx tk va) = some (none, pm_Rw (pm_YW w z (ab_rst Z)) fk fp pl nx tk va) := by
  rw [← rwYW hz, ← rwYW hz]
  exact q_reset
theorem c_atEnd0 (hz : 48 < z) (h10 : w 10 = some (.inr (3, [.ref 11, .int (nI t)]))) (ht : t ≤ 740) (h : ¬ 700 < t) {x : Int32} : pm_call 15 [.ref 20, .int x] (pm_Rw (pm_YW w z Y) fk fp pl nx tk va) = some (some (.int x), pm_Rw (pm_YW w z Y) fk fp pl nx tk va) := by
  simp only [pe15, z15_0, z15_1, z15_4, z15_7, z15_10, pm_kv_some, pm_kw_some, pm_k_some, pm_k_void, pm_vc_some, pm_kl_some, pg2_0, pg2_1, pg2_2, pg2_3, pg2_4, pg2_5, pg2_6, pg3_0, pg3_1, rw20, rw10, cYW10 hz h10]
  rw [if_neg (show ¬ (700 : Int32) < nI t from nI_nlt (a := 700) (b := t) (by omega) (by omega))]
  simp only [z15_19, z15_20]
theorem c_atEnd1 (hz : 48 < z) (h10 : w 10 = some (.inr (3, [.ref 11, .int (nI t)]))) (ht : t ≤ 740) (h : 700 < t) {x : Int32} : pm_call 15 [.ref 20, .int x] (pm_Rw (pm_YW w z Y) fk fp pl nx tk va) = some (some (.int x), pm_Rw (pm_YW w z Y) 1 pl pl nx tk va) := by
  simp only [pe15, z15_0, z15_1, z15_4, z15_7, z15_10, pm_kv_some, pm_kw_some, pm_k_some, pm_k_void, pm_vc_some, pm_kl_some, pg2_0, pg2_1, pg2_2, pg2_3, pg2_4, pg2_5, pg2_6, pg3_0, pg3_1, rw20, rw10, cYW10 hz h10]
  rw [if_pos (show (700 : Int32) < nI t from nI_lt (a := 700) (b := t) (by omega) (by omega))]
  simp only [z15_13, z15_14, z15_15, z15_18, z15_19, z15_20, pm_kv_some, pm_kw_some, pm_k_some, pm_k_void, pm_vc_some, pm_kl_some, rw20, q_fail]
theorem tz_ccur_end (hp : p ≤ t) (hc : tz_ccur c t p pl nx tk va) : tk = 0 ↔ ((tz_t c t p).1 = 0 ∨ (tz_t c t p).1 = 5) := by
  have k5 := tz_k5 (c := c) hp
  have e := hc.2.1
  by_cases h5 : (tz_t c t p).1 = 5
  · rw [if_pos h5] at e
    exact ⟨fun _ => Or.inr h5, fun _ => e⟩
  · rw [if_neg h5] at e
    rw [e]
    exact ⟨fun z => Or.inl ((nI_eq (b := 0) (by omega) (by omega)).mp z), fun z => z.elim (fun z => by rw [z]; rfl) (fun z => absurd z h5)⟩
/-- all lines behind the quarters -/
theorem c_others_loop (hz : 48 < z) (h10 : w 10 = some (.inr (3, [.ref 11, .int (nI t)]))) (h11 : w 11 = some (.inl (2, 740, .inl B))) (hB : tz_B B c t) (ht : t ≤ 740) : ∀ (m : Nat) (Y : Nat → Nat → Int32) (n N p : Nat) (pl tk va : Int32), n + N + m = 29 → 1 ≤ m → p ≤ t → ab_wf Y n N →
    (∃ k s, tz_lp c t m Y n N p = .inl (k, s) ∧ ∃ (x : Int32) (Y' : Nat → Nat → Int32) (pl' nx' tk' va' : Int32), pm_ev 23 2 [some (.ref 20), some (.ref z), some (.int (nI (5 + n + N)))] [] (pm_Rw (pm_YW w z Y) 0 0 pl (nI p) tk va) = some (some (.int x), pm_Rw (pm_YW w z Y') (nI k) (nI s) pl' nx' tk' va')) ∨
    (∃ Y' n' N', tz_lp c t m Y n N p = .inr (Y', n', N') ∧ ab_wf Y' n' N' ∧ ∃ pl' nx' tk' va' : Int32, pm_ev 23 2 [some (.ref 20), some (.ref z), some (.int (nI (5 + n + N)))] [] (pm_Rw (pm_YW w z Y) 0 0 pl (nI p) tk va) = some (some (.int (nI (5 + n' + N'))), pm_Rw (pm_YW w z Y') 0 0 pl' nx' tk' va')) := by
  intro m
  induction m with
  | zero => intro Y n N p pl tk va hm h1; omega
  | succ m ih =>
    intro Y n N p pl tk va hm h1 hp hw
    obtain ⟨pl1, nx1, tk1, va1, g1, hc⟩ := c_stepD (Y := Y) (fk := 0) (fp := 0) (pl := pl) (tk := tk) (va := va) hz h10 h11 hB ht hp
    have st : pm_ev 23 2 [some (.ref 20), some (.ref z), some (.int (nI (5 + n + N)))] [] (pm_Rw (pm_YW w z Y) 0 0 pl (nI p) tk va) = if tk1 = 0 then pm_ev 23 19 [some (.ref 20), some (.ref z), some (.int (nI (5 + n + N)))] [] (pm_Rw (pm_YW w z Y) 0 0 pl1 nx1 tk1 va1) else pm_ev 23 25 [some (.ref 20), some (.ref z), some (.int (nI (5 + n + N)))] [] (pm_Rw (pm_YW w z Y) 0 0 pl1 nx1 tk1 va1) := by
      simp only [z23_2, z23_3, z23_5]
      rw [if_neg (show ¬ (33 : Int32) < nI (5 + n + N) from nI_nlt (a := 33) (b := 5 + n + N) (by omega) (by omega))]
      simp only [z23_8, z23_9, z23_12, z23_13, z23_16, pm_kv_some, pm_kw_some, pm_k_some, pm_k_void, pm_vc_some, pm_kl_some, pg2_0, pg2_1, pg2_2, pg2_3, pg2_4, pg2_5, pg2_6, rw20, g1]
    rw [st, tz_lp]
    by_cases e0 : (tz_t c t p).1 = 0
    · rw [if_pos ((tz_ccur_end hp hc).mpr (Or.inl e0)), if_pos e0]
      refine Or.inr ⟨Y, n, N, rfl, hw, pl1, nx1, tk1, va1, ?_⟩
      simp only [z23_19, z23_20, z23_21, z23_24, pm_kv_some, pm_kw_some, pm_k_some, pm_k_void, pm_vc_some, pm_kl_some, rw20, c_atEnd0 hz h10 ht (by have := ((tz_t5 hp).2 e0).2; omega)]
    · rw [if_neg e0]
      by_cases e5 : (tz_t c t p).1 = 5
      · rw [if_pos ((tz_ccur_end hp hc).mpr (Or.inr e5))]
        obtain ⟨i1, i2⟩ := (tz_t5 hp).1 e5
        left
        refine ⟨1, 700, by rw [tz_otP_end (by rw [e5]; decide), i1], nI (5 + n + N), Y, pl1, nx1, tk1, va1, ?_⟩
        simp only [z23_19, z23_20, z23_21, z23_24, pm_kv_some, pm_kw_some, pm_k_some, pm_k_void, pm_vc_some, pm_kl_some, rw20, c_atEnd1 hz h10 ht i2]
        rw [hc.1, i1]; rfl
      · rw [if_neg (fun z => ((tz_ccur_end hp hc).mp z).elim e0 e5)]
        rcases c_other (fk := 0) (fp := 0) hz h10 h11 hB ht hp hw hc with ⟨k, s, e, Y', pl', nx', tk', va', h⟩ | ⟨Y', n', N', r, e, hr, hw', hn', pl', tk', va', h⟩
        · left
          refine ⟨k, s, by rw [e], nI (5 + n + N), Y', pl', nx', tk', va', ?_⟩
          simp only [z23_25, z23_26, z23_27, z23_30, pm_kv_some, pm_kw_some, pm_k_some, pm_k_void, pm_vc_some, pm_kl_some, rw20, h]
          rw [if_pos trivial]
          simp only [z23_33, z23_34]
        · have h1' : 1 ≤ m := by
            have a := hw'.n20
            have b := hw'.N8
            omega
          have st2 : pm_ev 23 25 [some (.ref 20), some (.ref z), some (.int (nI (5 + n + N)))] [] (pm_Rw (pm_YW w z Y) 0 0 pl1 nx1 tk1 va1) = pm_ev 23 2 [some (.ref 20), some (.ref z), some (.int (nI (5 + n' + N')))] [] (pm_Rw (pm_YW w z Y') 0 0 pl' (nI r) tk' va') := by
            simp only [z23_25, z23_26, z23_27, z23_30, pm_kv_some, pm_kw_some, pm_k_some, pm_k_void, pm_vc_some, pm_kl_some, rw20, h]
            rw [if_neg (by decide)]
            simp only [z23_35, z23_38, nI_1]
            rw [show 5 + n + N + 1 = 5 + n' + N' from by omega]
          rw [st2, e]
          exact ih Y' n' N' r pl' tk' va' (by omega) h1' hr hw'
/-- not going on -/
theorem c_read_no {w : pm_H} {x : Int32} : pm_ev 12 44 [some (.ref 20), some (.ref z), some (.int 0), some (.int x)] [] w = some (some (.int 0), w) := by
  simp only [z12_44, z12_45, z12_46]
  by_cases h : x < 4
  · rw [if_pos h]
    simp only [z12_49, z12_50]
    rw [if_pos trivial]
    simp only [z12_66, z12_67]
    rw [if_pos trivial]
    simp only [z12_78, z12_79]
  · rw [if_neg h]
    simp only [z12_66, z12_67]
    rw [if_pos trivial]
    simp only [z12_78, z12_79]
/-- the quarters -/
theorem c_q4 (hz : 48 < z) (h10 : w 10 = some (.inr (3, [.ref 11, .int (nI t)]))) (h11 : w 11 = some (.inl (2, 740, .inl B))) (hB : tz_B B c t) (ht : t ≤ 740) : ∀ (m q : Nat) (Y : Nat → Nat → Int32) (p : Nat) (pl tk va : Int32), q + m = 4 → p ≤ t → ab_wf Y 0 0 →
    (∃ k s, tz_q4 c t m q Y p = .inl (k, s) ∧ ∃ (Y' : Nat → Nat → Int32) (pl' nx' tk' va' : Int32), pm_ev 12 44 [some (.ref 20), some (.ref z), some (.int 1), some (.int (nI q))] [] (pm_Rw (pm_YW w z Y) 0 0 pl (nI p) tk va) = some (some (.int 0), pm_Rw (pm_YW w z Y') (nI k) (nI s) pl' nx' tk' va')) ∨
    (∃ Y' r, tz_q4 c t m q Y p = .inr (Y', r) ∧ r ≤ t ∧ ab_wf Y' 0 0 ∧ ∃ pl' tk' va' : Int32, pm_ev 12 44 [some (.ref 20), some (.ref z), some (.int 1), some (.int (nI q))] [] (pm_Rw (pm_YW w z Y) 0 0 pl (nI p) tk va) = pm_ev 12 70 [some (.ref 20), some (.ref z), some (.int 1), some (.int (nI 4))] [] (pm_Rw (pm_YW w z Y') 0 0 pl' (nI r) tk' va')) := by
  intro m
  induction m with
  | zero =>
    intro q Y p pl tk va hq hp hw
    have : q = 4 := by omega
    subst this
    refine Or.inr ⟨Y, p, rfl, hp, hw, pl, tk, va, ?_⟩
    simp only [z12_44, z12_45, z12_46]
    rw [if_neg (show ¬ nI 4 < 4 by decide)]
    simp only [z12_66, z12_67]
    rw [if_neg (by decide)]
  | succ m ih =>
    intro q Y p pl tk va hq hp hw
    have st : pm_ev 12 44 [some (.ref 20), some (.ref z), some (.int 1), some (.int (nI q))] [] (pm_Rw (pm_YW w z Y) 0 0 pl (nI p) tk va) = pm_ev 12 53 [some (.ref 20), some (.ref z), some (.int 1), some (.int (nI q))] [] (pm_Rw (pm_YW w z Y) 0 0 pl (nI p) tk va) := by
      simp only [z12_44, z12_45, z12_46]
      rw [if_pos (show nI q < 4 from nI_lt (a := q) (b := 4) (by omega) (by omega))]
      simp only [z12_49, z12_50]
      rw [if_neg (by decide)]
    rw [st, tz_q4]
    rcases c_quarter (Y := Y) (fk := 0) (fp := 0) (pl := pl) (tk := tk) (va := va) hz h10 h11 hB ht hp (show q < 4 by omega) with ⟨k, s, e, Y', pl', nx', tk', va', h⟩ | ⟨v, u, r, e, hr, hv, hu, pl', tk', va', h⟩
    · refine Or.inl ⟨k, s, by rw [e], Y', pl', nx', tk', va', ?_⟩
      simp only [z12_53, z12_54, z12_55, z12_56, z12_59, z12_60, z12_63, pm_kv_some, pm_kw_some, pm_k_some, pm_k_void, pm_vc_some, pm_kl_some, rw20, h, c_read_no]
    · have st2 : pm_ev 12 53 [some (.ref 20), some (.ref z), some (.int 1), some (.int (nI q))] [] (pm_Rw (pm_YW w z Y) 0 0 pl (nI p) tk va) = pm_ev 12 44 [some (.ref 20), some (.ref z), some (.int 1), some (.int (nI (q + 1)))] [] (pm_Rw (pm_YW w z (ab_qt Y q v u)) 0 0 pl' (nI r) tk' va') := by
        simp only [z12_53, z12_54, z12_55, z12_56, z12_59, z12_60, z12_63, pm_kv_some, pm_kw_some, pm_k_some, pm_k_void, pm_vc_some, pm_kl_some, rw20, h, nI_1]
      rw [st2, e]
      exact ih (q + 1) _ r pl' tk' va' (by omega) hr (ab_wf_qt hw hv hu)
theorem c_read (hz : 48 < z) (h10 : w 10 = some (.inr (3, [.ref 11, .int (nI t)]))) (h11 : w 11 = some (.inl (2, 740, .inl B))) (hB : tz_B B c t) (ht : t ≤ 740) :
    (∃ k s, tz_tx c t (ab_rst Z) = .inl (k, s) ∧ ∃ (x : Int32) (Y' : Nat → Nat → Int32) (pl' nx' tk' va' : Int32), pm_call 12 [.ref 20, .ref z] (pm_Rw (pm_YW w z Z) fk fp pl nx tk va) = some (some (.int x), pm_Rw (pm_YW w z Y') (nI k) (nI s) pl' nx' tk' va')) ∨
    (∃ Y' n N L, tz_tx c t (ab_rst Z) = .inr (Y', n, N, L) ∧ ab_wf Y' n N ∧ ∃ pl' nx' tk' va' : Int32, pm_call 12 [.ref 20, .ref z] (pm_Rw (pm_YW w z Z) fk fp pl nx tk va) = some (some (.int (nI L)), pm_Rw (pm_YW w z Y') 0 0 pl' nx' tk' va')) := by
  have hw := ab_rst_wf (Z := Z)
  have hp : 0 ≤ t := Nat.zero_le _
  obtain ⟨pl1, nx1, tk1, va1, g1, hc⟩ := c_stepD (Y := ab_rst Z) (fk := 0) (fp := 0) (pl := pl) (tk := tk) (va := va) hz h10 h11 hB ht hp
  have g1' : pm_call 13 [.ref 20] (pm_Rw (pm_YW w z (ab_rst Z)) 0 0 pl 0 tk va) = some (none, pm_Rw (pm_YW w z (ab_rst Z)) 0 0 pl1 nx1 tk1 va1) := g1
  have zr : pm_Yr (pm_Rw (pm_YW w z Z) fk fp pl nx tk va) z Z := rwYr hz
  have st : pm_call 12 [.ref 20, .ref z] (pm_Rw (pm_YW w z Z) fk fp pl nx tk va) = if tk1 = 0 then pm_ev 12 30 [some (.ref 20), some (.ref z), none, none] [] (pm_Rw (pm_YW w z (ab_rst Z)) 0 0 pl1 nx1 tk1 va1) else pm_ev 12 36 [some (.ref 20), some (.ref z), none, none] [] (pm_Rw (pm_YW w z (ab_rst Z)) 0 0 pl1 nx1 tk1 va1) := by
    simp only [pe12, z12_0, z12_1, z12_4, z12_5, z12_6, z12_9, z12_10, z12_11, z12_14, z12_15, z12_16, z12_19, z12_20, z12_23, z12_24, z12_27, pm_kv_some, pm_kw_some, pm_k_some, pm_k_void, pm_vc_some, pm_kl_some, pg2_0, pg2_1, pg2_2, pg2_3, pg2_4, pg2_5, pg2_6, pp2_1, pp2_2, pp2_3, pp2_4, pp2_5, pp2_6, rw20, zr.1, c_reset hz, ru20, g1']
  rw [st]
  unfold tz_tx
  by_cases e0 : (tz_t c t 0).1 = 0
  · rw [if_pos ((tz_ccur_end hp hc).mpr (Or.inl e0)), if_pos e0]
    refine Or.inr ⟨_, 0, 0, 0, rfl, hw, pl1, nx1, tk1, va1, ?_⟩
    simp only [z12_30, z12_31, z12_32, z12_35, pm_kv_some, pm_kw_some, pm_k_some, pm_k_void, pm_vc_some, pm_kl_some, rw20, c_atEnd0 hz h10 ht (by have := ((tz_t5 hp).2 e0).2; omega)]
    rfl
  · rw [if_neg e0]
    by_cases e5 : (tz_t c t 0).1 = 5
    · rw [if_pos ((tz_ccur_end hp hc).mpr (Or.inr e5))]
      obtain ⟨i1, i2⟩ := (tz_t5 hp).1 e5
      left
      refine ⟨1, 700, by rw [tz_noword (by rw [e5]; decide), i1], 0, ab_rst Z, pl1, nx1, tk1, va1, ?_⟩
      simp only [z12_30, z12_31, z12_32, z12_35, pm_kv_some, pm_kw_some, pm_k_some, pm_k_void, pm_vc_some, pm_kl_some, rw20, c_atEnd1 hz h10 ht i2]
      rw [hc.1, i1]; rfl
    · rw [if_neg (fun z => ((tz_ccur_end hp hc).mp z).elim e0 e5)]
      obtain ⟨f1, f2⟩ := c_shares (Y := ab_rst Z) (fk := 0) (fp := 0) hz h10 h11 hB ht hp hc
      cases ew : tz_word c t 0 0 with
      | inl f =>
        obtain ⟨k, s⟩ := f
        obtain ⟨Y', pl', nx', tk', va', h⟩ := f1 k s (Or.inl ew)
        refine Or.inl ⟨k, s, rfl, 0, Y', pl', nx', tk', va', ?_⟩
        simp only [z12_36, z12_37, z12_38, z12_41, z12_42, z12_43, pm_kv_some, pm_kw_some, pm_k_some, pm_k_void, pm_vc_some, pm_kl_some, rw20, h, c_read_no]
      | inr r =>
        have hr := tz_word_le hp ew
        simp only []
        cases es : tz_shP c t r with
        | inl f =>
          obtain ⟨k, s⟩ := f
          obtain ⟨Y', pl', nx', tk', va', h⟩ := f1 k s (Or.inr ⟨r, ew, es⟩)
          refine Or.inl ⟨k, s, rfl, 0, Y', pl', nx', tk', va', ?_⟩
          simp only [z12_36, z12_37, z12_38, z12_41, z12_42, z12_43, pm_kv_some, pm_kw_some, pm_k_some, pm_k_void, pm_vc_some, pm_kl_some, rw20, h, c_read_no]
        | inr q =>
          obtain ⟨v, r1⟩ := q
          obtain ⟨hr1, v1, v2⟩ := tz_shP_le hr es
          obtain ⟨pl2, tk2, va2, h⟩ := f2 r v r1 ew es
          simp only []
          have st2 : pm_ev 12 36 [some (.ref 20), some (.ref z), none, none] [] (pm_Rw (pm_YW w z (ab_rst Z)) 0 0 pl1 nx1 tk1 va1) = pm_ev 12 44 [some (.ref 20), some (.ref z), some (.int 1), some (.int (nI 0))] [] (pm_Rw (pm_YW w z (ab_set (ab_rst Z) 0 (fun _ => v))) 0 0 pl2 (nI r1) tk2 va2) := by
            simp only [z12_36, z12_37, z12_38, z12_41, z12_42, z12_43, pm_kv_some, pm_kw_some, pm_k_some, pm_k_void, pm_vc_some, pm_kl_some, rw20, h]
            rfl
          rw [st2]
          rcases c_q4 hz h10 h11 hB ht 4 0 _ r1 pl2 tk2 va2 rfl hr1 (ab_wf_sh hw (i3_m v1 v2)) with ⟨k, s, e, Y', pl', nx', tk', va', h⟩ | ⟨Y1, r2, e, hr2, hw1, pl3, tk3, va3, h⟩
          · exact Or.inl ⟨k, s, by rw [e], 0, Y', pl', nx', tk', va', h⟩
          · rw [h]
            simp only [e]
            have en : ∀ (o : Option (Option Value × pm_H)) {x : Int32} {w' : pm_H}, o = some (some (.int x), w') → pm_k 12 75 [some (.ref 20), some (.ref z), some (.int 1), some (.int (nI 4))] [] o = some (some (.int x), w') := by
              intro o x w' h
              rw [h]
              simp only [pm_kv_some, pm_kw_some, pm_k_some, pm_k_void, pm_vc_some, pm_kl_some, z12_75, z12_79]
            have st3 : pm_ev 12 70 [some (.ref 20), some (.ref z), some (.int 1), some (.int (nI 4))] [] (pm_Rw (pm_YW w z Y1) 0 0 pl3 (nI r2) tk3 va3) = pm_k 12 75 [some (.ref 20), some (.ref z), some (.int 1), some (.int (nI 4))] [] (pm_ev 23 2 [some (.ref 20), some (.ref z), some (.int (nI (5 + 0 + 0)))] [] (pm_Rw (pm_YW w z Y1) 0 0 pl3 (nI r2) tk3 va3)) := by
              simp only [z12_70, z12_71, z12_72, pm_kv_some, pm_kw_some, pm_k_some, pm_k_void, pm_vc_some, pm_kl_some, rw20, pe23, z23_0, z23_1]
              rfl
            rw [st3]
            rcases c_others_loop hz h10 h11 hB ht 29 Y1 0 0 r2 pl3 tk3 va3 rfl (by omega) hr2 hw1 with ⟨k, s, e, x, Y', pl', nx', tk', va', h⟩ | ⟨Y', n', N', e, hw', pl', nx', tk', va', h⟩
            · exact Or.inl ⟨k, s, by rw [e], x, Y', pl', nx', tk', va', en _ h⟩
            · exact Or.inr ⟨Y', n', N', 5 + n' + N', by rw [e], hw', pl', nx', tk', va', en _ h⟩
end PCT
