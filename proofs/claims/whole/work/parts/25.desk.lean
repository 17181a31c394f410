/-! THE DESK (class 5, at 0): its methods over the whole desk -/
def pm_Di (w : pm_H) : Prop := ∃ (rk : Nat → Int32) (rc st en : Int32) (tw te pf : Nat → Int64) (ca : Nat → Int32) (cc rd : Int32) (bw be : Int64), pm_Dw w rk rc st en tw te pf ca cc rd bw be = w
/-- a desk: year at y, draft at z, fault, the tape (t bytes B), the history (h entries K Q F), the Year Y -/
def pm_Desk (w : pm_H) (y z : Nat) (fk : Int32) (B : Nat → Int32) (t h : Nat) (K Q F : Nat → Int32) (Y : Nat → Nat → Int32) : Prop :=
  ((y = 80 ∧ z = 100) ∨ (y = 100 ∧ z = 80)) ∧ w 0 = some (.inr (5, [.ref 10, .ref 20, .ref 40, .ref 60, .ref y, .ref z, .int fk])) ∧ pm_Tw w B (nI t) = w ∧ (∃ r1 r2 r3 r4 r5 r6 : Int32, w 20 = some (.inr (2, [.ref 10, .int r1, .int r2, .int r3, .int r4, .int r5, .int r6]))) ∧ pm_Di w ∧ pm_Hw w (nI h) K Q F = w ∧ pm_Yr w y Y ∧ ∃ Z, pm_Yr w z Z
theorem pm_Di.of {w w' : pm_H} (h : pm_Di w) (hq : ∀ k, 40 ≤ k → k ≤ 48 → w' k = w k) : pm_Di w' := by
  obtain ⟨rk, rc, st, en, tw, te, pf, ca, cc, rd, bw, be, h⟩ := h
  refine ⟨rk, rc, st, en, tw, te, pf, ca, cc, rd, bw, be, ?_⟩
  funext k
  by_cases hk : k < 40 ∨ 48 < k
  · exact dwo hk
  · rw [hq k (by omega) (by omega)]
    have e := congrFun h k
    rw [← e]
    unfold pm_Dw
    by_cases e1 : k = 40
    · rw [if_pos e1, if_pos e1]
    rw [if_neg e1, if_neg e1]
    by_cases e1 : k = 41
    · rw [if_pos e1, if_pos e1]
    rw [if_neg e1, if_neg e1]
    by_cases e1 : k = 45
    · rw [if_pos e1, if_pos e1]
    rw [if_neg e1, if_neg e1]
    by_cases e1 : k = 46
    · rw [if_pos e1, if_pos e1]
    rw [if_neg e1, if_neg e1]
    by_cases e1 : k = 47
    · rw [if_pos e1, if_pos e1]
    rw [if_neg e1, if_neg e1]
    by_cases e1 : k = 48
    · rw [if_pos e1, if_pos e1]
    rw [if_neg e1, if_neg e1]
    exact hq k (by omega) (by omega)
theorem pm_Dw_di {w : pm_H} {rk ca : Nat → Int32} {rc st en cc rd : Int32} {tw te pf : Nat → Int64} {bw be : Int64} : pm_Di (pm_Dw w rk rc st en tw te pf ca cc rd bw be) := by
  refine ⟨rk, rc, st, en, tw, te, pf, ca, cc, rd, bw, be, ?_⟩
  funext k
  unfold pm_Dw
  repeat' (split; rfl)
  rfl
/-- cells 10, 11 hold the tape -/
theorem pm_Tw_of {w w' : pm_H} {B : Nat → Int32} {t : Int32} (h : pm_Tw w B t = w) (h1 : w' 10 = w 10) (h2 : w' 11 = w 11) : pm_Tw w' B t = w' := twe (by rw [h1, ← h]; rfl) (by rw [h2, ← h]; rfl)
theorem pm_Hw_of {w w' : pm_H} {c : Int32} {K Q F : Nat → Int32} (h : pm_Hw w c K Q F = w) (hq : ∀ k, 60 ≤ k → k ≤ 64 → w' k = w k) : pm_Hw w' c K Q F = w' := hwe (by rw [hq 60 (by omega) (by omega), ← h]; rfl) (by rw [hq 62 (by omega) (by omega), ← h]; rfl) (by rw [hq 63 (by omega) (by omega), ← h]; rfl) (by rw [hq 64 (by omega) (by omega), ← h]; rfl)
theorem pm_Tw_tw {w : pm_H} {B B' : Nat → Int32} {t t' : Int32} : pm_Tw (pm_Tw w B t) B' t' = pm_Tw w B' t' := by
  funext k; unfold pm_Tw
  by_cases e : k = 10
  · simp [e]
  · by_cases e2 : k = 11
    · simp [e2]
    · simp [e, e2]
/-- a desk stays one when only its dilution, or nothing of it, is written -/
theorem pm_Desk.dil {w : pm_H} {y z t h : Nat} {fk : Int32} {B K Q F : Nat → Int32} {Y : Nat → Nat → Int32} (hd : pm_Desk w y z fk B t h K Q F Y) {rk ca : Nat → Int32} {rc st en cc rd : Int32} {tw te pf : Nat → Int64} {bw be : Int64} : pm_Desk (pm_Dw w rk rc st en tw te pf ca cc rd bw be) y z fk B t h K Q F Y := by
  obtain ⟨h1, h2, h3, ⟨r1, r2, r3, r4, r5, r6, h4⟩, h5, h6, h7, Z, h8⟩ := hd
  have hy : 48 < y ∧ 48 < z := by omega
  exact ⟨h1, by rw [dwo (by omega)]; exact h2, pm_Tw_of h3 (dwo (by omega)) (dwo (by omega)), ⟨r1, r2, r3, r4, r5, r6, by rw [dwo (by omega)]; exact h4⟩, pm_Dw_di, pm_Hw_of h6 (fun k _ _ => dwo (by omega)), dwY h7 hy.1, Z, dwY h8 hy.2⟩
theorem q_isDay {w : pm_H} {d : Int32} : pm_call 63 [.int d] w = some (some (.int (if d < 0 then 0 else if 359 < d then 0 else 1)), w) := by
  simp only [pe63, z63_0, z63_1, z63_4, z63_5, z63_8, z63_11, z63_12, z63_15, z63_16, pm_zr0, pm_zr1]
  split
  · rfl
  · split <;> rfl
theorem q_isQuarter {w : pm_H} {q : Int32} : pm_call 69 [.int q] w = some (some (.int (if q < 0 then 0 else if q < 4 then 1 else 0)), w) := by
  simp only [pe69, z69_0, z69_1, z69_4, z69_5, z69_6, z69_9, z69_10, z69_13, z69_14, pm_zr0, pm_zr1]
  split
  · rfl
  · split <;> rfl
theorem q_isPrice {w : pm_H} {v : Int32} : pm_call 71 [.int v] w = some (some (.int (if v < 1 then 0 else if 9999 < v then 0 else 1)), w) := by
  simp only [pe71, z71_0, z71_1, z71_2, z71_5, z71_6, z71_9, z71_12, z71_13, z71_16, z71_17, pm_zr0, pm_zr1]
  split
  · rfl
  · split <;> rfl
theorem q_leastTerm {w : pm_H} {s : Int32} : pm_call 58 [.int s] w = some (some (.int (if s = 0 then 1 else 0)), w) := by
  simp only [pe58, z58_0, z58_1, z58_4, z58_5, z58_8, z58_9]
  split <;> rfl
theorem q_mostTerm {w : pm_H} {s : Int32} : pm_call 59 [.int s] w = some (some (.int (if s = 0 then 9999 else 99999)), w) := by
  simp only [pe59, z59_0, z59_1, z59_4, z59_7, z59_10, z59_12]
  split <;> rfl
theorem q_requireRun {w : pm_H} {a b : Nat} (hab : a ≤ b) (hb : b < 4) : pm_call 75 [.int (nI a), .int (nI b)] w = some (none, w) := by
  simp only [pe75, z75_0, z75_1, z75_4, z75_5, z75_6, z75_9, z75_10, z75_11, z75_24]
  rw [if_neg (nI_pos (by omega)), if_neg (nI_nlt hab (by omega)), if_pos (show nI b < 4 from nI_lt (b := 4) hb (by omega))]
section PDK
variable {w : pm_H} {y z t h : Nat} {fk : Int32} {B K Q F : Nat → Int32} {Y : Nat → Nat → Int32}
theorem d_fault (hd : pm_Desk w y z fk B t h K Q F Y) : pm_call 60 [.ref 0] w = some (some (.int fk), w) := by
  simp only [pe60, z60_0, z60_1, z60_4, pm_kv_some, pm_kw_some, pm_k_some, pm_k_void, pm_vc_some, pm_kl_some, pg5_0, pg5_1, pg5_2, pg5_3, pg5_4, pg5_5, pg5_6, hd.2.1]
theorem d_feed0 (hd : pm_Desk w y z fk B t h K Q F Y) (ht : t ≤ 740) (hx : 720 < t) {a b c d e : Int32} : pm_call 55 [.ref 0, .int a, .int b, .int c, .int d, .int e] w = some (some (.int (-1)), w) := by
  have hr := q_hasRoom (w := w) (B := B) (t := nI t)
  rw [hd.2.2.1] at hr
  have h10 : w 10 = some (.inr (3, [.ref 11, .int (nI t)])) := by rw [← hd.2.2.1]; rfl
  simp only [pe55, z55_0, z55_1, z55_4, z55_7, z55_10, z55_11, pm_kv_some, pm_kw_some, pm_k_some, pm_k_void, pm_vc_some, pm_kl_some, pg5_0, pg5_1, pg5_2, pg5_3, pg5_4, pg5_5, pg5_6, hd.2.1, h10, hr]
  rw [if_pos (show 740 < nI t + 20 by show nI 740 < nI t + nI 20; rw [nI_add]; exact nI_lt (by omega) (by omega))]
  rfl
/-- twenty bytes of five words -/
def ab_put (B : Nat → Int32) (n : Nat) (v : Int32) : Nat → Int32 := upd (upd (upd (upd B n (ab_by v 24)) (n + 1) (ab_by v 16)) (n + 2) (ab_by v 8)) (n + 3) (ab_by v 0)
theorem d_feed (hd : pm_Desk w y z fk B t h K Q F Y) (hx : t ≤ 720) {a b c d e : Int32} : pm_call 55 [.ref 0, .int a, .int b, .int c, .int d, .int e] w = some (some (.int (nI (t + 20))), pm_Tw w (ab_put (ab_put (ab_put (ab_put (ab_put B t a) (t + 4) b) (t + 8) c) (t + 12) d) (t + 16) e) (nI (t + 20))) := by
  obtain ⟨h1, h2, h3, -⟩ := hd
  have h0 : ∀ (B : Nat → Int32) (t : Int32), pm_Tw w B t 0 = some (.inr (5, [.ref 10, .ref 20, .ref 40, .ref 60, .ref y, .ref z, .int fk])) := fun _ _ => by rw [two (by omega)]; exact h2
  conv => lhs; rw [← h3]
  simp only [pe55, z55_0, z55_1, z55_4, z55_7, pm_kv_some, pm_kw_some, pm_k_some, pm_k_void, pm_vc_some, pm_kl_some, pg5_0, pg5_1, pg5_2, pg5_3, pg5_4, pg5_5, pg5_6, h0, tw10, q_hasRoom]
  rw [if_neg (show ¬ 740 < nI t + 20 by show ¬ nI 740 < nI t + nI 20; rw [nI_add]; exact nI_nlt (by omega) (by omega)), if_neg (by decide)]
  simp only [z55_12, z55_13, z55_16, z55_17, z55_20, z55_21, z55_24, z55_25, z55_28, z55_29, z55_32, z55_33, z55_36, z55_37, z55_40, z55_42, z55_45, z55_46, z55_49, z55_51, z55_54, z55_55, z55_58, z55_61, pm_kv_some, pm_kw_some, pm_k_some, pm_k_void, pm_vc_some, pm_kl_some, pg5_0, pg5_1, pg5_2, pg5_3, pg5_4, pg5_5, pg5_6, pg3_0, pg3_1, h0, tw10, q_put (show t + 4 ≤ 740 by omega), q_put (show t + 4 + 4 ≤ 740 by omega), q_put (show t + 4 + 4 + 4 ≤ 740 by omega), q_put (show t + 4 + 4 + 4 + 4 ≤ 740 by omega), q_put (show t + 4 + 4 + 4 + 4 + 4 ≤ 740 by omega), ab_put, pm_Tw_tw]
theorem d_end (hd : pm_Desk w y z fk B t h K Q F Y) {n : Int32} : pm_call 56 [.ref 0, .int n] w = some (some (.int (if n < 0 then 0 else if nI t < n then 0 else 1)), if n < 0 then w else if nI t < n then w else pm_Tw w B n) := by
  obtain ⟨h1, h2, h3, -⟩ := hd
  have h0 : ∀ (B : Nat → Int32) (t : Int32), pm_Tw w B t 0 = some (.inr (5, [.ref 10, .ref 20, .ref 40, .ref 60, .ref y, .ref z, .int fk])) := fun _ _ => by rw [two (by omega)]; exact h2
  have h10 : w 10 = some (.inr (3, [.ref 11, .int (nI t)])) := by rw [← h3]; rfl
  have hu : pm_up w 10 (.inr (3, [.ref 11, .int n])) = pm_Tw w B n := by
    have h9 := tu10 (w := w) (B := B) (t := nI t) (t' := n)
    rw [h3] at h9
    exact h9
  simp only [pe56, z56_0, z56_1]
  by_cases hn : n < 0
  · rw [if_pos hn, if_pos hn, if_pos hn]
    simp only [z56_15, z56_16, pm_zr0]
  · rw [if_neg hn, if_neg hn, if_neg hn]
    simp only [z56_4, z56_5, z56_6, z56_9, z56_12, pm_kv_some, pm_kw_some, pm_k_some, pm_k_void, pm_vc_some, pm_kl_some, pg5_0, pg5_1, pg5_2, pg5_3, pg5_4, pg5_5, pg5_6, pg3_0, pg3_1, h2, h10]
    by_cases hx : nI t < n
    · rw [if_pos hx, if_pos hx, if_pos hx]
      simp only [z56_15, z56_16, pm_zr0]
    · rw [if_neg hx, if_neg hx, if_neg hx]
      simp only [z56_17, z56_18, z56_21, z56_22, z56_25, z56_26, pm_kv_some, pm_kw_some, pm_k_some, pm_k_void, pm_vc_some, pm_kl_some, pg5_0, pg5_1, pg5_2, pg5_3, pg5_4, pg5_5, pg5_6, pp3_1, h2, h10, pm_zr1, hu]
theorem d_now (hd : pm_Desk w y z fk B t h K Q F Y) {n : Nat} (hn : Y 3 0 = nI n) (h20 : n ≤ 20) {v : Int32} : pm_call 61 [.ref 0, .int v] w = some (some (.int (if v = 0 then nI n else if v = 1 then Y 7 0 else if v = 2 then ab_sc (Y 4) n 0 0 else if v = 3 then ab_sh (Y 4) (Y 5) (Y 6) 359 n 0 (Y 0 0) else if v = 4 then (if n = 0 then -1 else Y 5 (n - 1)) else if v = 5 then nI h else if v = 6 then nI t else -1)), w) := by
  obtain ⟨h1, h2, h3, -, -, h6, h7, -⟩ := hd
  have h10 : w 10 = some (.inr (3, [.ref 11, .int (nI t)])) := by rw [← h3]; rfl
  have h60 : w 60 = some (.inr (1, [.int (nI h), .ref 62, .ref 63, .ref 64])) := by rw [← h6]; rfl
  simp only [pe61, z61_0, z61_1, z61_44, z61_45, z61_48, z61_51, z61_52, z61_53, z61_56, z61_59, z61_60, z61_61, z61_64, z61_67, z61_68, z61_69, z61_72, z61_75, z61_78, z61_79, z61_80, z61_83, z61_86, z61_87, z61_88, z61_91, z61_94, z61_95, z61_96, z61_99, z61_102, z61_103, z61_104, pm_kv_some, pm_kw_some, pm_k_some, pm_k_void, pm_vc_some, pm_kl_some, pg5_0, pg5_1, pg5_2, pg5_3, pg5_4, pg5_5, pg5_6, pg4_0, pg4_1, pg4_2, pg4_3, pg4_4, pg4_5, pg4_6, pg4_7, pg4_8, pg4_9, pg4_10, pg4_11, pg3_0, pg3_1, pg1_0, pg1_1, pg1_2, pg1_3, h2, h7.1, h10, h60, q_splitCount h7 hn h20, q_sharesOn h7 hn h20, q_latestDay h7 hn h20, hn]
  by_cases e : v = 0
  · rw [if_pos e, if_pos e]
  rw [if_neg e, if_neg e]
  by_cases e : v = 1
  · rw [if_pos e, if_pos e]
  rw [if_neg e, if_neg e]
  by_cases e : v = 2
  · rw [if_pos e, if_pos e]
  rw [if_neg e, if_neg e]
  by_cases e : v = 3
  · rw [if_pos e, if_pos e]
  rw [if_neg e, if_neg e]
  by_cases e : v = 4
  · rw [if_pos e, if_pos e]
  rw [if_neg e, if_neg e]
  by_cases e : v = 5
  · rw [if_pos e, if_pos e]
  rw [if_neg e, if_neg e]
  by_cases e : v = 6
  · rw [if_pos e, if_pos e]
  rw [if_neg e, if_neg e]
theorem d_shares (hd : pm_Desk w y z fk B t h K Q F Y) {n : Nat} (hn : Y 3 0 = nI n) (h20 : n ≤ 20) {d g : Int32} : pm_call 62 [.ref 0, .int d, .int g] w = some (some (.int (if d < 0 then -1 else if 359 < d then -1 else if g = 0 then ab_sh (Y 4) (Y 5) (Y 6) d n 0 (Y 0 0) else ab_rs Y n d)), w) := by
  obtain ⟨h1, h2, h3, -, -, h6, h7, -⟩ := hd
  simp only [pe62, z62_0, z62_1, z62_4, pm_kv_some, pm_kw_some, pm_k_some, pm_k_void, pm_vc_some, pm_kl_some, q_isDay]
  by_cases e1 : d < 0
  · rw [if_pos e1, if_pos rfl, if_pos e1]
    simp only [z62_7, z62_8]
  · rw [if_neg e1, if_neg e1]
    by_cases e2 : 359 < d
    · rw [if_pos e2, if_pos rfl, if_pos e2]
      simp only [z62_7, z62_8]
    · rw [if_neg e2, if_neg (by decide), if_neg e2]
      simp only [z62_9, z62_10, z62_13, z62_14, z62_17, z62_18, z62_21, z62_24, z62_25, z62_28, z62_29, z62_32, pm_kv_some, pm_kw_some, pm_k_some, pm_k_void, pm_vc_some, pm_kl_some, pg5_0, pg5_1, pg5_2, pg5_3, pg5_4, pg5_5, pg5_6, h2, h7.1, q_restatedOn h7 hn h20, q_sharesOn h7 hn h20, ab_rs]
      split <;> rfl
end PDK
