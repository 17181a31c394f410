/-! BOTH SIDES: the class's text on a desk; the invariant of the law's loop -/
section PIV
variable {w w' : pm_H} {y z t h : Nat} {fk : Int32} {B K Q F : Nat → Int32} {Y : Nat → Nat → Int32} {c : Nat → Nat}
theorem pm_Desk.of (hd : pm_Desk w y z fk B t h K Q F Y) (hq : ∀ k, k ≤ 112 → w' k = w k) : pm_Desk w' y z fk B t h K Q F Y := by
  obtain ⟨h1, h2, h3, ⟨r1, r2, r3, r4, r5, r6, h4⟩, h5, h6, h7, Z, h8⟩ := hd
  exact ⟨h1, by rw [hq 0 (by omega)]; exact h2, pm_Tw_of h3 (hq 10 (by omega)) (hq 11 (by omega)), ⟨r1, r2, r3, r4, r5, r6, by rw [hq 20 (by omega)]; exact h4⟩, h5.of (fun k _ _ => hq k (by omega)), pm_Hw_of h6 (fun k _ _ => hq k (by omega)), pm_Yr_of h7 (fun k _ _ => hq k (by omega)), Z, pm_Yr_of h8 (fun k _ _ => hq k (by omega))⟩
theorem pm_Desk.hist (hd : pm_Desk w y z fk B t h K Q F Y) {h' : Nat} {K' Q' F' : Nat → Int32} : pm_Desk (pm_Hw w (nI h') K' Q' F') y z fk B t h' K' Q' F' Y := by
  obtain ⟨h1, h2, h3, ⟨r1, r2, r3, r4, r5, r6, h4⟩, h5, h6, h7, Z, h8⟩ := hd
  exact ⟨h1, by rw [hwo (by omega)]; exact h2, pm_Tw_of h3 (hwo (by omega)) (hwo (by omega)), ⟨r1, r2, r3, r4, r5, r6, by rw [hwo (by omega)]; exact h4⟩, h5.of (fun k _ _ => hwo (by omega)), pm_Hw_hw, pm_Yr_of h7 (fun k _ _ => hwo (by omega)), Z, pm_Yr_of h8 (fun k _ _ => hwo (by omega))⟩
theorem pm_Desk.tape (hd : pm_Desk w y z fk B t h K Q F Y) {B' : Nat → Int32} {t' : Nat} : pm_Desk (pm_Tw w B' (nI t')) y z fk B' t' h K Q F Y := by
  obtain ⟨h1, h2, h3, ⟨r1, r2, r3, r4, r5, r6, h4⟩, h5, h6, h7, Z, h8⟩ := hd
  exact ⟨h1, by rw [two (by omega)]; exact h2, pm_Tw_tw, ⟨r1, r2, r3, r4, r5, r6, by rw [two (by omega)]; exact h4⟩, h5.of (fun k _ _ => two (by omega)), pm_Hw_of h6 (fun k _ _ => two (by omega)), pm_Yr_of h7 (fun k _ _ => two (by omega)), Z, pm_Yr_of h8 (fun k _ _ => two (by omega))⟩
theorem pm_Desk.c10 (hd : pm_Desk w y z fk B t h K Q F Y) : w 10 = some (.inr (3, [.ref 11, .int (nI t)])) := (congrFun hd.2.2.1 10).symm.trans tw10
theorem pm_Desk.c11 (hd : pm_Desk w y z fk B t h K Q F Y) : w 11 = some (.inl (2, 740, .inl B)) := (congrFun hd.2.2.1 11).symm.trans tw11
theorem pm_Desk.c60 (hd : pm_Desk w y z fk B t h K Q F Y) : w 60 = some (.inr (1, [.int (nI h), .ref 62, .ref 63, .ref 64])) ∧ w 62 = some (.inl (0, 10, .inl K)) ∧ w 63 = some (.inl (0, 10, .inl Q)) ∧ w 64 = some (.inl (0, 10, .inl F)) := by
  have e := hd.2.2.2.2.2.1
  exact ⟨(congrFun e 60).symm.trans hw60, (congrFun e 62).symm.trans hw62, (congrFun e 63).symm.trans hw63, (congrFun e 64).symm.trans hw64⟩
theorem nI_3 {k : Nat} (h1 : 1 ≤ k) (h2 : k ≤ 3) : ¬ nI k = 0 := fun e => by
  have := (nI_eq (a := k) (b := 0) (by omega) (by omega)).mp e
  omega
theorem d_text (hd : pm_Desk w y z fk B t h K Q F Y) (hB : tz_B B c t) (ht : t ≤ 740) :
    (∃ k s Z, tz_tx c t (ab_rst Z) = .inl (k, s) ∧ ∃ w', pm_call 57 [.ref 0] w = some (some (.int (-1 - nI s)), w') ∧ pm_Desk w' y z (nI k) B 0 h K Q F Y ∧ ∀ j, 112 < j → w' j = w j) ∨
    (∃ Y' n N L Z, tz_tx c t (ab_rst Z) = .inr (Y', n, N, L) ∧ ab_wf Y' n N ∧ ∃ w', pm_call 57 [.ref 0] w = some (some (.int (nI L)), w') ∧ pm_Desk w' z y 0 B 0 0 K Q F Y' ∧ ∀ j, 112 < j → w' j = w j) := by
  have h10 := hd.c10
  have h11 := hd.c11
  have h60 := hd.c60
  obtain ⟨h1, h2, h3, ⟨r1, r2, r3, r4, r5, r6, h4⟩, h5, h6, h7, Z, h8⟩ := hd
  have hz : 48 < z := by omega
  have we : pm_Rw (pm_YW w z Z) r1 r2 r3 r4 r5 r6 = w := by rw [pm_YWe h8]; exact rwe h4
  have st : ∀ (x : Int32) (Y' : Nat → Nat → Int32) (k s pl nx tk va : Int32), pm_call 12 [.ref 20, .ref z] w = some (some (.int x), pm_Rw (pm_YW w z Y') k s pl nx tk va) →
      pm_call 57 [.ref 0] w = if k = 0 then pm_ev 57 48 [some (.ref 0), some (.int x), none] [] (pm_up (pm_up (pm_Rw (pm_YW w z Y') k s pl nx tk va) 0 (.inr (5, [.ref 10, .ref 20, .ref 40, .ref 60, .ref y, .ref z, .int k]))) 10 (.inr (3, [.ref 11, .int 0]))) else some (some (.int (-1 - s)), pm_up (pm_up (pm_Rw (pm_YW w z Y') k s pl nx tk va) 0 (.inr (5, [.ref 10, .ref 20, .ref 40, .ref 60, .ref y, .ref z, .int k]))) 10 (.inr (3, [.ref 11, .int 0]))) := by
    intro x Y' k s pl nx tk va hr
    have g0 : pm_Rw (pm_YW w z Y') k s pl nx tk va 0 = some (.inr (5, [.ref 10, .ref 20, .ref 40, .ref 60, .ref y, .ref z, .int fk])) := by rw [rwo (by omega), pm_YWo (by omega)]; exact h2
    have g10 : pm_Rw (pm_YW w z Y') k s pl nx tk va 10 = some (.inr (3, [.ref 11, .int (nI t)])) := by rw [rwo (by omega), pm_YWo (by omega)]; exact h10
    simp only [pe57, z57_0, z57_1, z57_4, z57_5, z57_8, z57_11, z57_12, z57_13, z57_14, z57_17, z57_20, pm_kv_some, pm_kw_some, pm_k_some, pm_k_void, pm_vc_some, pm_kl_some, pg5_0, pg5_1, pg5_2, pg5_3, pg5_4, pg5_5, pg5_6, pg2_0, pg2_1, pg2_2, pg2_3, pg2_4, pg2_5, pg2_6, pp5_4, pp5_5, pp5_6, h2, h4, hr, g0, rw20]
    simp only [z57_23, z57_24, z57_27, z57_28, pm_kv_some, pm_kw_some, pm_k_some, pm_k_void, pm_vc_some, pm_kl_some, pg5_0, pg5_1, pg5_2, pg5_3, pg5_4, pg5_5, pg5_6, pp3_1, pm_up_same, pm_up_ne (show ¬ (10 : Nat) = 0 by omega), g10]
    simp only [z57_31, z57_32, z57_35, pm_kv_some, pm_kw_some, pm_k_some, pm_k_void, pm_vc_some, pm_kl_some, pg5_0, pg5_1, pg5_2, pg5_3, pg5_4, pg5_5, pg5_6, pm_up_ne (show ¬ (0 : Nat) = 10 by omega), pm_up_same]
    by_cases e : k = 0
    · rw [if_pos e, if_pos e]
    · rw [if_neg e, if_neg e]
      simp only [z57_38, z57_39, z57_40, z57_43, z57_46, z57_47, pm_kv_some, pm_kw_some, pm_k_some, pm_k_void, pm_vc_some, pm_kl_some, pg5_0, pg5_1, pg5_2, pg5_3, pg5_4, pg5_5, pg5_6, pg2_0, pg2_1, pg2_2, pg2_3, pg2_4, pg2_5, pg2_6, pm_up_ne (show ¬ (0 : Nat) = 10 by omega), pm_up_ne (show ¬ (20 : Nat) = 10 by omega), pm_up_ne (show ¬ (20 : Nat) = 0 by omega), pm_up_same, rw20]
  rcases c_read (w := w) (Z := Z) (fk := r1) (fp := r2) (pl := r3) (nx := r4) (tk := r5) (va := r6) hz h10 h11 hB ht with ⟨k, s, e, x, Y', pl', nx', tk', va', hr⟩ | ⟨Y', n, N, L, e, hw, pl', nx', tk', va', hr⟩
  · rw [we] at hr
    left
    obtain ⟨k1, k2⟩ := tz_ok_tx _ e
    refine ⟨k, s, Z, e, pm_up (pm_up (pm_Rw (pm_YW w z Y') (nI k) (nI s) pl' nx' tk' va') 0 (.inr (5, [.ref 10, .ref 20, .ref 40, .ref 60, .ref y, .ref z, .int (nI k)]))) 10 (.inr (3, [.ref 11, .int 0])), ?_, ?_, fun j hj => ?_⟩
    · rw [st _ _ _ _ _ _ _ _ hr, if_neg (nI_3 k1 k2)]
    · have key : ∀ j, j ≠ 0 → j ≠ 10 → j ≠ 20 → (j < z ∨ z + 12 < j) → (pm_up (pm_up (pm_Rw (pm_YW w z Y') (nI k) (nI s) pl' nx' tk' va') 0 (.inr (5, [.ref 10, .ref 20, .ref 40, .ref 60, .ref y, .ref z, .int (nI k)]))) 10 (.inr (3, [.ref 11, .int 0]))) j = w j := fun j a1 a2 a3 a4 => by
        rw [pm_up_ne a2, pm_up_ne a1, rwo a3, pm_YWo a4]
      refine ⟨h1, ?_, twe ?_ ?_, ⟨nI k, nI s, pl', nx', tk', va', ?_⟩, h5.of (fun j _ _ => key j (by omega) (by omega) (by omega) (by omega)), pm_Hw_of h6 (fun j _ _ => key j (by omega) (by omega) (by omega) (by omega)), pm_Yr_of h7 (fun j _ _ => key j (by omega) (by omega) (by omega) (by omega)), Y', ?_⟩
      · rw [pm_up_ne (by omega), pm_up_same]
      · rw [pm_up_same]; rfl
      · rw [key 11 (by omega) (by omega) (by omega) (by omega)]; exact h11
      · rw [pm_up_ne (by omega), pm_up_ne (by omega), rw20]
      · exact pm_Yr_of (rwYr (w := w) (fk := nI k) (fp := nI s) (pl := pl') (nx := nx') (tk := tk') (va := va') hz) (fun j _ _ => by rw [pm_up_ne (by omega), pm_up_ne (by omega)])
    · rw [pm_up_ne (by omega), pm_up_ne (by omega), rwo (by omega), pm_YWo (by omega)]
  · rw [we] at hr
    right
    have g60 : w 60 = some (.inr (1, [.int (nI h), .ref 62, .ref 63, .ref 64])) := h60.1
    refine ⟨Y', n, N, L, Z, e, hw, pm_up (pm_up (pm_up (pm_Rw (pm_YW w z Y') 0 0 pl' nx' tk' va') 0 (.inr (5, [.ref 10, .ref 20, .ref 40, .ref 60, .ref z, .ref y, .int 0]))) 10 (.inr (3, [.ref 11, .int 0]))) 60 (.inr (1, [.int 0, .ref 62, .ref 63, .ref 64])), ?_, ?_, fun j hj => ?_⟩
    · rw [st _ _ _ _ _ _ _ _ hr, if_pos rfl]
      have g1 : pm_Rw (pm_YW w z Y') 0 0 pl' nx' tk' va' 60 = some (.inr (1, [.int (nI h), .ref 62, .ref 63, .ref 64])) := by rw [rwo (by omega), pm_YWo (by omega)]; exact g60
      simp only [z57_48, z57_49, z57_52, z57_53, z57_54, z57_55, z57_58, z57_61, z57_62, z57_63, pm_kv_some, pm_kw_some, pm_k_some, pm_k_void, pm_vc_some, pm_kl_some, pg5_0, pg5_1, pg5_2, pg5_3, pg5_4, pg5_5, pg5_6, pp5_4, pp5_5, pp5_6, pm_up_ne (show ¬ (0 : Nat) = 10 by omega), pm_up_same]
      simp only [z57_66, z57_67, z57_70, z57_71, z57_74, z57_75, pm_kv_some, pm_kw_some, pm_k_some, pm_k_void, pm_vc_some, pm_kl_some, pg5_0, pg5_1, pg5_2, pg5_3, pg5_4, pg5_5, pg5_6, pp1_0, pm_up_same, pm_up_ne (show ¬ (60 : Nat) = 0 by omega), pm_up_ne (show ¬ (60 : Nat) = 10 by omega), g1]
      congr 3
      rw [pm_up_up, pm_up_comm (k := 10) (j := 0) (by omega), pm_up_up]
    · have key : ∀ j, j ≠ 0 → j ≠ 10 → j ≠ 20 → j ≠ 60 → (j < z ∨ z + 12 < j) → (pm_up (pm_up (pm_up (pm_Rw (pm_YW w z Y') 0 0 pl' nx' tk' va') 0 (.inr (5, [.ref 10, .ref 20, .ref 40, .ref 60, .ref z, .ref y, .int 0]))) 10 (.inr (3, [.ref 11, .int 0]))) 60 (.inr (1, [.int 0, .ref 62, .ref 63, .ref 64]))) j = w j := fun j a1 a2 a3 a5 a4 => by
        rw [pm_up_ne a5, pm_up_ne a2, pm_up_ne a1, rwo a3, pm_YWo a4]
      refine ⟨by omega, ?_, twe ?_ ?_, ⟨0, 0, pl', nx', tk', va', ?_⟩, h5.of (fun j _ _ => key j (by omega) (by omega) (by omega) (by omega) (by omega)), hwe ?_ ?_ ?_ ?_, ?_, Y, pm_Yr_of h7 (fun j _ _ => key j (by omega) (by omega) (by omega) (by omega) (by omega))⟩
      · rw [pm_up_ne (by omega), pm_up_ne (by omega), pm_up_same]
      · rw [pm_up_ne (by omega), pm_up_same]; rfl
      · rw [key 11 (by omega) (by omega) (by omega) (by omega) (by omega)]; exact h11
      · rw [pm_up_ne (by omega), pm_up_ne (by omega), pm_up_ne (by omega), rw20]
      · rw [pm_up_same]; rfl
      · rw [key 62 (by omega) (by omega) (by omega) (by omega) (by omega)]; exact h60.2.1
      · rw [key 63 (by omega) (by omega) (by omega) (by omega) (by omega)]; exact h60.2.2.1
      · rw [key 64 (by omega) (by omega) (by omega) (by omega) (by omega)]; exact h60.2.2.2
      · exact pm_Yr_of (rwYr (w := w) (fk := 0) (fp := 0) (pl := pl') (nx := nx') (tk := tk') (va := va') hz) (fun j _ _ => by rw [pm_up_ne (by omega), pm_up_ne (by omega), pm_up_ne (by omega)])
    · rw [pm_up_ne (by omega), pm_up_ne (by omega), pm_up_ne (by omega), rwo (by omega), pm_YWo (by omega)]
end PIV
/-! the history: what each change taken back leaves, and the model's rows kept -/
def ab_hs (K Q F SN : Nat → Int32) : Nat → (Nat → Nat → Int32) → Nat → Nat → Prop
  | 0, _, _, _ => True
  | h + 1, Y, n, N => (K h = 0 → 0 < n) ∧ (K h = 1 → 0 < N) ∧ (¬ K h = 0 → ¬ K h = 1 → (Q h).toNatClampNeg < 4 ∧ Q h = nI (Q h).toNatClampNeg) ∧
    ab_wf (ab_un Y n N (K h) (Q h).toNatClampNeg (F h)) (if K h = 0 then n - 1 else n) (if K h = 1 then N - 1 else N) ∧
    ab_le (ab_un Y n N (K h) (Q h).toNatClampNeg (F h)) (Yv (fun p => SN (103 * h + p))) (if K h = 0 then n - 1 else n) (if K h = 1 then N - 1 else N) ∧
    ab_hs K Q F SN h (ab_un Y n N (K h) (Q h).toNatClampNeg (F h)) (if K h = 0 then n - 1 else n) (if K h = 1 then N - 1 else N)
theorem ab_un_le {Y Z : Nat → Nat → Int32} {n N q : Nat} {k f : Int32} (le : ab_le Y Z n N) : ab_le (ab_un Y n N k q f) (ab_un Z n N k q f) (if k = 0 then n - 1 else n) (if k = 1 then N - 1 else N) := by
  intro i j hl
  have h20 : (if k = 0 then n - 1 else n) ≤ n := by split <;> omega
  have h8 : (if k = 1 then N - 1 else N) ≤ N := by split <;> omega
  unfold ab_lv at hl
  have hi : i = 0 ∨ i = 1 ∨ i = 2 ∨ i = 3 ∨ i = 4 ∨ i = 5 ∨ i = 6 ∨ i = 7 ∨ i = 8 ∨ i = 9 ∨ i = 10 ∨ i = 11 := by omega
  rcases hi with e | e | e | e | e | e | e | e | e | e | e | e <;> subst e
  · exact le.h0
  · show (if k = 2 then upd (Y 1) q f else Y 1) j = (if k = 2 then upd (Z 1) q f else Z 1) j
    have hj := le.h1 j (by omega)
    split
    · by_cases e : j = q
      · subst e; rw [pk_us, pk_us]
      · rw [pk_un e, pk_un e]; exact hj
    · exact hj
  · show (if k = 0 ∨ k = 1 ∨ k = 2 then Y 2 else upd (Y 2) q f) j = (if k = 0 ∨ k = 1 ∨ k = 2 then Z 2 else upd (Z 2) q f) j
    have hj := le.h2 j (by omega)
    split
    · exact hj
    · by_cases e : j = q
      · subst e; rw [pk_us, pk_us]
      · rw [pk_un e, pk_un e]; exact hj
  · rfl
  · exact le.h4 j (by omega)
  · exact le.h5 j (by omega)
  · exact le.h6 j (by omega)
  · rfl
  · exact le.h8 j (by omega)
  · exact le.h9 j (by omega)
  · exact le.h10 j (by omega)
  · exact le.h11 j (by omega)
theorem ab_hs.le {K Q F SN : Nat → Int32} : ∀ (h : Nat) (Y Z : Nat → Nat → Int32) (n N : Nat), ab_le Y Z n N → ab_hs K Q F SN h Y n N → ab_hs K Q F SN h Z n N := by
  intro h
  induction h with
  | zero => intro Y Z n N _ _; trivial
  | succ h ih =>
    intro Y Z n N le hh
    obtain ⟨a1, a2, a3, a4, a5, a6⟩ := hh
    have e := ab_un_le (q := (Q h).toNatClampNeg) (k := K h) (f := F h) le
    exact ⟨a1, a2, a3, a4.congr e, e.symm.trans a5, ih _ _ _ _ e a6⟩
/-- other histories that agree below h; one forgotten -/
theorem ab_hs.same {K Q F SN K' Q' F' SN' : Nat → Int32} : ∀ (h : Nat) (Y : Nat → Nat → Int32) (n N : Nat), (∀ i, i < h → K' i = K i ∧ Q' i = Q i ∧ F' i = F i ∧ ∀ p, p < 103 → SN' (103 * i + p) = SN (103 * i + p)) → n ≤ 20 → N ≤ 8 → ab_hs K Q F SN h Y n N → ab_hs K' Q' F' SN' h Y n N := by
  intro h
  induction h with
  | zero => intro Y n N _ _ _ _; trivial
  | succ h ih =>
    intro Y n N hi h20 h8 hh
    obtain ⟨a1, a2, a3, a4, a5, a6⟩ := hh
    obtain ⟨e1, e2, e3, e4⟩ := hi h (by omega)
    have hn : (if K h = 0 then n - 1 else n) ≤ 20 := by split <;> omega
    have hN : (if K h = 1 then N - 1 else N) ≤ 8 := by split <;> omega
    unfold ab_hs
    rw [e1, e2, e3]
    refine ⟨a1, a2, a3, a4, a5.trans ?_, ih _ _ _ (fun i h9 => hi i (by omega)) hn hN a6⟩
    intro i j hl
    unfold ab_lv at hl
    have hc : i = 0 ∨ i = 1 ∨ i = 2 ∨ i = 3 ∨ i = 4 ∨ i = 5 ∨ i = 6 ∨ i = 7 ∨ i = 8 ∨ i = 9 ∨ i = 10 ∨ i = 11 := by omega
    rcases hc with e | e | e | e | e | e | e | e | e | e | e | e <;> subst e <;> exact (e4 _ (by omega)).symm
theorem ab_hs.shift {K Q F SN K' Q' F' SN' : Nat → Int32} : ∀ (h : Nat) (Y : Nat → Nat → Int32) (n N : Nat), (∀ i, i < h → K' i = K (i + 1) ∧ Q' i = Q (i + 1) ∧ F' i = F (i + 1) ∧ ∀ p, p < 103 → SN' (103 * i + p) = SN (103 * (i + 1) + p)) → n ≤ 20 → N ≤ 8 → ab_hs K Q F SN (h + 1) Y n N → ab_hs K' Q' F' SN' h Y n N := by
  intro h
  induction h with
  | zero => intro Y n N _ _ _ _; trivial
  | succ h ih =>
    intro Y n N hi h20 h8 hh
    obtain ⟨a1, a2, a3, a4, a5, a6⟩ := hh
    obtain ⟨e1, e2, e3, e4⟩ := hi h (by omega)
    have hn : (if K (h + 1) = 0 then n - 1 else n) ≤ 20 := by split <;> omega
    have hN : (if K (h + 1) = 1 then N - 1 else N) ≤ 8 := by split <;> omega
    unfold ab_hs
    rw [e1, e2, e3]
    refine ⟨a1, a2, a3, a4, a5.trans ?_, ih _ _ _ (fun i h9 => hi i (by omega)) hn hN a6⟩
    intro i j hl
    unfold ab_lv at hl
    have hc : i = 0 ∨ i = 1 ∨ i = 2 ∨ i = 3 ∨ i = 4 ∨ i = 5 ∨ i = 6 ∨ i = 7 ∨ i = 8 ∨ i = 9 ∨ i = 10 ∨ i = 11 := by omega
    rcases hc with e | e | e | e | e | e | e | e | e | e | e | e <;> subst e <;> exact (e4 _ (by omega)).symm
/-- one change more: behind it the Year X, taken back it is as Y -/
theorem ab_hs.push {K Q F SN R : Nat → Int32} {h n N n' N' : Nat} {Y X : Nat → Nat → Int32} {a b d : Int32} (hh : h ≤ 10) (hs : ab_hs K Q F SN h Y n N) (hw : ab_wf Y n N) (le : ab_le Y (Yv R) n N)
    (a0 : a = 0 → 0 < n') (a1 : a = 1 → 0 < N') (a2 : ¬ a = 0 → ¬ a = 1 → b.toNatClampNeg < 4 ∧ b = nI b.toNatClampNeg) (en : (if a = 0 then n' - 1 else n') = n) (eN : (if a = 1 then N' - 1 else N') = N) (back : ab_le Y (ab_un X n' N' a b.toNatClampNeg d) n N) :
    ab_hs (ab_hk h K a) (ab_hk h Q b) (ab_hk h F d) (ab_sn SN R h) (ab_hn h) X n' N' := by
  have fin : ∀ (g : Nat) (K' Q' F' SN' : Nat → Int32), ab_hs K' Q' F' SN' g Y n N → K' g = a → Q' g = b → F' g = d → (∀ p, p < 103 → SN' (103 * g + p) = R p) → ab_hs K' Q' F' SN' (g + 1) X n' N' := by
    intro g K' Q' F' SN' h0 e1 e2 e3 e4
    unfold ab_hs
    rw [e1, e2, e3, en, eN]
    refine ⟨a0, a1, a2, hw.congr back, back.symm.trans (le.trans ?_), ab_hs.le _ _ _ _ _ back h0⟩
    have h20 := hw.n20
    have h8 := hw.N8
    intro i j hl
    unfold ab_lv at hl
    have hc : i = 0 ∨ i = 1 ∨ i = 2 ∨ i = 3 ∨ i = 4 ∨ i = 5 ∨ i = 6 ∨ i = 7 ∨ i = 8 ∨ i = 9 ∨ i = 10 ∨ i = 11 := by omega
    rcases hc with e | e | e | e | e | e | e | e | e | e | e | e <;> subst e <;> exact (e4 _ (by omega)).symm
  by_cases h10 : h < 10
  · have ehn : ab_hn h = h + 1 := if_pos h10
    rw [ehn]
    have ek : ∀ (G : Nat → Int32) (x : Int32), ab_hk h G x = upd G h x := fun G x => if_pos h10
    have es : ab_sn SN R h = ab_cp SN R h 103 := if_pos h10
    rw [ek, ek, ek, es]
    refine fin h _ _ _ _ (ab_hs.same h Y n N (fun i hi => ⟨pk_un (by omega), pk_un (by omega), pk_un (by omega), fun p hp => ?_⟩) hw.n20 hw.N8 hs) pk_us pk_us pk_us (fun p hp => ?_)
    · exact if_neg (by omega)
    · show (if _ then R (103 * h + p - 103 * h) else _) = R p
      rw [if_pos (by omega), Nat.add_sub_cancel_left]
  · have h9 : h = 10 := by omega
    subst h9
    have ehn : ab_hn 10 = 9 + 1 := if_neg (by omega)
    rw [ehn]
    have ek : ∀ (G : Nat → Int32) (x : Int32), ab_hk 10 G x = upd (ab_so 10 G) 9 x := fun G x => if_neg (by omega)
    have es : ab_sn SN R 10 = ab_cp (ab_sf SN 927) R 9 103 := if_neg (by omega)
    rw [ek, ek, ek, es]
    have so : ∀ (G : Nat → Int32) (x : Int32) (i : Nat), i < 9 → upd (ab_so 10 G) 9 x i = G (i + 1) := fun G x i hi => by
      rw [pk_un (by omega)]
      exact if_pos (by omega)
    refine fin 9 _ _ _ _ (ab_hs.shift 9 Y n N (fun i hi => ⟨so _ _ i hi, so _ _ i hi, so _ _ i hi, fun p hp => ?_⟩) hw.n20 hw.N8 hs) pk_us pk_us pk_us (fun p hp => ?_)
    · show (if 103 * 9 ≤ 103 * i + p ∧ 103 * i + p < 103 * 9 + 103 then _ else ab_sf SN 927 (103 * i + p)) = _
      rw [if_neg (by omega)]
      show (if 103 * i + p < 927 then SN (103 * i + p + 103) else _) = _
      rw [if_pos (by omega)]
      congr 1
      omega
    · show (if 103 * 9 ≤ 103 * 9 + p ∧ 103 * 9 + p < 103 * 9 + 103 then R (103 * 9 + p - 103 * 9) else _) = R p
      rw [if_pos (by omega), Nat.add_sub_cancel_left]
/-! the model's cells, and the invariant -/
def pm_Mod (w : pm_H) (t h : Nat) (fk : Int32) (TT R SN : Nat → Int32) : Prop := ∃ (s0 s3 s4 s5 s6 s7 s9 s18 s19 s20 : Int32) (l10 l21 l22 : Int64) (RD : Nat → Int32) (wt er : Nat → Int64) (rk : Nat → Int32), pm_Mw w (ab_S s0 (nI t) s3 s4 s5 s6 s7 fk s9 (nI h) s18 s19 s20) (ab_Lg l10 l21 l22) TT R RD SN wt er rk = w
theorem mwx {w : pm_H} {S : Nat → Int32} {L : Nat → Int64} {TT R RD SN : Nat → Int32} {wt er : Nat → Int64} {rk : Nat → Int32} {k : Nat} (h : k ≠ 200 ∧ k ≠ 202 ∧ k ≠ 212 ∧ k ≠ 213 ∧ k ≠ 214 ∧ k ≠ 216 ∧ k ≠ 217 ∧ k ≠ 218) : pm_Mw w S L TT R RD SN wt er rk k = w k := by
  obtain ⟨a1, a2, a3, a4, a5, a6, a7, a8⟩ := h
  unfold pm_Mw
  rw [if_neg a1, if_neg a2, if_neg a3, if_neg a4, if_neg a5, if_neg a6, if_neg a7, if_neg a8]
theorem mww {w : pm_H} {S S' : Nat → Int32} {L L' : Nat → Int64} {TT R RD SN TT' R' RD' SN' : Nat → Int32} {wt er wt' er' : Nat → Int64} {rk rk' : Nat → Int32} : pm_Mw (pm_Mw w S L TT R RD SN wt er rk) S' L' TT' R' RD' SN' wt' er' rk' = pm_Mw w S' L' TT' R' RD' SN' wt' er' rk' := by
  funext k
  have : k = 200 ∨ k = 202 ∨ k = 212 ∨ k = 213 ∨ k = 214 ∨ k = 216 ∨ k = 217 ∨ k = 218 ∨ (k ≠ 200 ∧ k ≠ 202 ∧ k ≠ 212 ∧ k ≠ 213 ∧ k ≠ 214 ∧ k ≠ 216 ∧ k ≠ 217 ∧ k ≠ 218) := by omega
  rcases this with e | e | e | e | e | e | e | e | e
  · subst e; rfl
  · subst e; rfl
  · subst e; rfl
  · subst e; rfl
  · subst e; rfl
  · subst e; rfl
  · subst e; rfl
  · subst e; rfl
  · rw [mwx e, mwx e, mwx e]
theorem pm_Mw_of {w w' : pm_H} {S : Nat → Int32} {L : Nat → Int64} {TT R RD SN : Nat → Int32} {wt er : Nat → Int64} {rk : Nat → Int32} (e : pm_Mw w S L TT R RD SN wt er rk = w) (hq : ∀ k, 200 ≤ k → k ≤ 218 → w' k = w k) : pm_Mw w' S L TT R RD SN wt er rk = w' := by
  funext k
  by_cases hk : 200 ≤ k ∧ k ≤ 218
  · rw [hq k hk.1 hk.2, ← congrFun e k]
    have : k = 200 ∨ k = 202 ∨ k = 212 ∨ k = 213 ∨ k = 214 ∨ k = 216 ∨ k = 217 ∨ k = 218 ∨ (k ≠ 200 ∧ k ≠ 202 ∧ k ≠ 212 ∧ k ≠ 213 ∧ k ≠ 214 ∧ k ≠ 216 ∧ k ≠ 217 ∧ k ≠ 218) := by omega
    rcases this with e | e | e | e | e | e | e | e | e
    · subst e; rfl
    · subst e; rfl
    · subst e; rfl
    · subst e; rfl
    · subst e; rfl
    · subst e; rfl
    · subst e; rfl
    · subst e; rfl
    · rw [mwx e, mwx e]
      exact hq k hk.1 hk.2
  · rw [mwo (by omega)]
def pm_Iv (w : pm_H) (y z : Nat) (fk : Int32) (B : Nat → Int32) (t h : Nat) (K Q F : Nat → Int32) (Y : Nat → Nat → Int32) (n N : Nat) (TT R SN : Nat → Int32) (c : Nat → Nat) : Prop :=
  pm_Desk w y z fk B t h K Q F Y ∧ pm_Mod w t h fk TT R SN ∧ t ≤ 740 ∧ tz_B B c t ∧ tz_T TT c t ∧ h ≤ 10 ∧ ab_wf Y n N ∧ ab_le Y (Yv R) n N ∧ ab_hs K Q F SN h Y n N ∧ ∃ o : Nat → Int64, w 300 = some (.inl (1, 1, .inr (.inl o)))
def IV (w : pm_H) : Prop := ∃ (y z : Nat) (fk : Int32) (B : Nat → Int32) (t h : Nat) (K Q F : Nat → Int32) (Y : Nat → Nat → Int32) (n N : Nat) (TT R SN : Nat → Int32) (c : Nat → Nat), pm_Iv w y z fk B t h K Q F Y n N TT R SN c
