/-! THE DESK, part 3: earnings, prices, undoing, runs -/
section PDK3
variable {w : pm_H} {y z t h : Nat} {fk : Int32} {B K Q F : Nat → Int32} {Y : Nat → Nat → Int32}
theorem d_earns_bad {q v : Int32} (hno : ¬ (¬ q < 0 ∧ q < 4 ∧ ¬ v < -99999 ∧ ¬ 99999 < v)) : pm_call 68 [.ref 0, .int q, .int v] w = some (some (.int (-1000000000)), w) := by
  simp only [pe68, z68_0, z68_1, z68_4, pm_kv_some, pm_kw_some, pm_k_some, pm_k_void, pm_vc_some, pm_kl_some, q_isQuarter]
  by_cases e1 : q < 0
  · rw [if_pos e1, if_pos rfl]; simp only [z68_19, z68_21]
  rw [if_neg e1]
  by_cases e2 : q < 4
  · rw [if_pos e2, if_neg (by decide)]
    simp only [z68_7, z68_8, z68_10]
    by_cases e3 : v < -99999
    · rw [if_pos e3]; simp only [z68_19, z68_21]
    rw [if_neg e3]
    simp only [z68_13, z68_14, z68_16]
    by_cases e4 : 99999 < v
    · rw [if_pos e4]; simp only [z68_19, z68_21]
    exact absurd ⟨e1, e2, e3, e4⟩ hno
  · rw [if_neg e2, if_pos rfl]; simp only [z68_19, z68_21]
theorem d_earns_ok (hd : pm_Desk w y z fk B t h K Q F Y) (hh : h ≤ 10) {q : Nat} (hq : q < 4) {v : Int32} (h3 : ¬ v < -99999) (h4 : ¬ 99999 < v) : pm_call 68 [.ref 0, .int (nI q), .int v] w = some (some (.int (Y 1 q)), pm_Hw (pm_Yw w y (Y 0 0) (upd (Y 1) q v) (Y 2) (Y 3 0) (Y 4) (Y 5) (Y 6) (Y 7 0) (Y 8) (Y 9) (Y 10) (Y 11)) (nI (ab_hn h)) (ab_hk h K 2) (ab_hk h Q (nI q)) (ab_hk h F (Y 1 q))) := by
  obtain ⟨h1, h2, h33, -, -, h6, h7, -⟩ := hd
  obtain ⟨g0, g1, g2, g4, g5, g6, g8, g9, g10, g11⟩ := id h7
  have hin : vp_in (nI q) 4 := vp_in_nI hq (by omega)
  have hu : pm_up w (y + 2) (.inl (0, 4, .inl (upd (Y 1) q v))) = pm_Yw w y (Y 0 0) (upd (Y 1) q v) (Y 2) (Y 3 0) (Y 4) (Y 5) (Y 6) (Y 7 0) (Y 8) (Y 9) (Y 10) (Y 11) := by
    have h9 := yu2 (w := w) (y := y) (f0 := Y 0 0) (p1 := Y 1) (p2 := Y 2) (f3 := Y 3 0) (p4 := Y 4) (p5 := Y 5) (p6 := Y 6) (f7 := Y 7 0) (p8 := Y 8) (p9 := Y 9) (p10 := Y 10) (p11 := Y 11) (q := upd (Y 1) q v)
    rw [ywe h7] at h9
    exact h9
  have hk := d_keep (w := pm_Yw w y (Y 0 0) (upd (Y 1) q v) (Y 2) (Y 3 0) (Y 4) (Y 5) (Y 6) (Y 7 0) (Y 8) (Y 9) (Y 10) (Y 11)) (K := K) (Q := Q) (F := F) (a := 2) (b := nI q) (d := Y 1 q) hh
  rw [pm_Hw_of h6 (fun k _ _ => ywo (by omega))] at hk
  have h2' : pm_Yw w y (Y 0 0) (upd (Y 1) q v) (Y 2) (Y 3 0) (Y 4) (Y 5) (Y 6) (Y 7 0) (Y 8) (Y 9) (Y 10) (Y 11) 0 = some (.inr (5, [.ref 10, .ref 20, .ref 40, .ref 60, .ref y, .ref z, .int fk])) := by rw [ywo (by omega)]; exact h2
  have h60 : pm_Yw w y (Y 0 0) (upd (Y 1) q v) (Y 2) (Y 3 0) (Y 4) (Y 5) (Y 6) (Y 7 0) (Y 8) (Y 9) (Y 10) (Y 11) 60 = some (.inr (1, [.int (nI h), .ref 62, .ref 63, .ref 64])) := by rw [ywo (by omega), ← h6]; rfl
  simp only [pe68, z68_0, z68_1, z68_4, pm_kv_some, pm_kw_some, pm_k_some, pm_k_void, pm_vc_some, pm_kl_some, q_isQuarter]
  rw [if_neg (nI_pos (by omega)), if_pos (show nI q < 4 from nI_lt (b := 4) hq (by omega)), if_neg (by decide)]
  simp only [z68_7, z68_8, z68_10]
  rw [if_neg h3]
  simp only [z68_13, z68_14, z68_16]
  rw [if_neg h4]
  simp only [z68_22, z68_23, z68_26, z68_29, z68_30, z68_31, z68_32, z68_33, z68_36, z68_39, z68_40, z68_41, z68_42, z68_43, z68_46, z68_47, z68_48, z68_49, z68_52, z68_53, pm_kv_some, pm_kw_some, pm_k_some, pm_k_void, pm_vc_some, pm_kl_some, pg5_0, pg5_1, pg5_2, pg5_3, pg5_4, pg5_5, pg5_6, pg4_0, pg4_1, pg4_2, pg4_3, pg4_4, pg4_5, pg4_6, pg4_7, pg4_8, pg4_9, pg4_10, pg4_11, h2, g0, g1, pm_ia_in hin, pm_is_in hin, nI_clamp (show q < 2 ^ 31 by omega), hu, h2', h60, hk]
theorem d_prices_bad {q v : Int32} (hno : ¬ (¬ q < 0 ∧ q < 4 ∧ ¬ v < 1 ∧ ¬ 9999 < v)) : pm_call 70 [.ref 0, .int q, .int v] w = some (some (.int (-1)), w) := by
  simp only [pe70, z70_0, z70_1, z70_4, pm_kv_some, pm_kw_some, pm_k_some, pm_k_void, pm_vc_some, pm_kl_some, q_isQuarter]
  by_cases e1 : q < 0
  · rw [if_pos e1, if_pos rfl]; simp only [z70_14, z70_15]
  rw [if_neg e1]
  by_cases e2 : q < 4
  · rw [if_pos e2, if_neg (by decide)]
    simp only [z70_7, z70_8, z70_11, pm_kv_some, pm_kw_some, pm_k_some, pm_k_void, pm_vc_some, pm_kl_some, q_isPrice]
    by_cases e3 : v < 1
    · rw [if_pos e3, if_pos rfl]; simp only [z70_14, z70_15]
    rw [if_neg e3]
    by_cases e4 : 9999 < v
    · rw [if_pos e4, if_pos rfl]; simp only [z70_14, z70_15]
    exact absurd ⟨e1, e2, e3, e4⟩ hno
  · rw [if_neg e2, if_pos rfl]; simp only [z70_14, z70_15]
theorem d_prices_ok (hd : pm_Desk w y z fk B t h K Q F Y) (hh : h ≤ 10) {q : Nat} (hq : q < 4) {v : Int32} (h3 : ¬ v < 1) (h4 : ¬ 9999 < v) : pm_call 70 [.ref 0, .int (nI q), .int v] w = some (some (.int (Y 2 q)), pm_Hw (pm_Yw w y (Y 0 0) (Y 1) (upd (Y 2) q v) (Y 3 0) (Y 4) (Y 5) (Y 6) (Y 7 0) (Y 8) (Y 9) (Y 10) (Y 11)) (nI (ab_hn h)) (ab_hk h K 3) (ab_hk h Q (nI q)) (ab_hk h F (Y 2 q))) := by
  obtain ⟨h1, h2, h33, -, -, h6, h7, -⟩ := hd
  obtain ⟨g0, g1, g2, g4, g5, g6, g8, g9, g10, g11⟩ := id h7
  have hin : vp_in (nI q) 4 := vp_in_nI hq (by omega)
  have hu : pm_up w (y + 3) (.inl (0, 4, .inl (upd (Y 2) q v))) = pm_Yw w y (Y 0 0) (Y 1) (upd (Y 2) q v) (Y 3 0) (Y 4) (Y 5) (Y 6) (Y 7 0) (Y 8) (Y 9) (Y 10) (Y 11) := by
    have h9 := yu3 (w := w) (y := y) (f0 := Y 0 0) (p1 := Y 1) (p2 := Y 2) (f3 := Y 3 0) (p4 := Y 4) (p5 := Y 5) (p6 := Y 6) (f7 := Y 7 0) (p8 := Y 8) (p9 := Y 9) (p10 := Y 10) (p11 := Y 11) (q := upd (Y 2) q v)
    rw [ywe h7] at h9
    exact h9
  have hk := d_keep (w := pm_Yw w y (Y 0 0) (Y 1) (upd (Y 2) q v) (Y 3 0) (Y 4) (Y 5) (Y 6) (Y 7 0) (Y 8) (Y 9) (Y 10) (Y 11)) (K := K) (Q := Q) (F := F) (a := 3) (b := nI q) (d := Y 2 q) hh
  rw [pm_Hw_of h6 (fun k _ _ => ywo (by omega))] at hk
  have h2' : pm_Yw w y (Y 0 0) (Y 1) (upd (Y 2) q v) (Y 3 0) (Y 4) (Y 5) (Y 6) (Y 7 0) (Y 8) (Y 9) (Y 10) (Y 11) 0 = some (.inr (5, [.ref 10, .ref 20, .ref 40, .ref 60, .ref y, .ref z, .int fk])) := by rw [ywo (by omega)]; exact h2
  have h60 : pm_Yw w y (Y 0 0) (Y 1) (upd (Y 2) q v) (Y 3 0) (Y 4) (Y 5) (Y 6) (Y 7 0) (Y 8) (Y 9) (Y 10) (Y 11) 60 = some (.inr (1, [.int (nI h), .ref 62, .ref 63, .ref 64])) := by rw [ywo (by omega), ← h6]; rfl
  simp only [pe70, z70_0, z70_1, z70_4, pm_kv_some, pm_kw_some, pm_k_some, pm_k_void, pm_vc_some, pm_kl_some, q_isQuarter]
  rw [if_neg (nI_pos (by omega)), if_pos (show nI q < 4 from nI_lt (b := 4) hq (by omega)), if_neg (by decide)]
  simp only [z70_7, z70_8, z70_11, pm_kv_some, pm_kw_some, pm_k_some, pm_k_void, pm_vc_some, pm_kl_some, q_isPrice]
  rw [if_neg h3, if_neg h4, if_neg (by decide)]
  simp only [z70_16, z70_17, z70_20, z70_23, z70_24, z70_25, z70_26, z70_27, z70_30, z70_33, z70_34, z70_35, z70_36, z70_37, z70_40, z70_41, z70_42, z70_43, z70_46, z70_47, pm_kv_some, pm_kw_some, pm_k_some, pm_k_void, pm_vc_some, pm_kl_some, pg5_0, pg5_1, pg5_2, pg5_3, pg5_4, pg5_5, pg5_6, pg4_0, pg4_1, pg4_2, pg4_3, pg4_4, pg4_5, pg4_6, pg4_7, pg4_8, pg4_9, pg4_10, pg4_11, h2, g0, g2, pm_ia_in hin, pm_is_in hin, nI_clamp (show q < 2 ^ 31 by omega), hu, h2', h60, hk]
theorem d_undo0 (hd : pm_Desk w y z fk B t 0 K Q F Y) : pm_call 72 [.ref 0] w = some (some (.int (-1)), w) := by
  obtain ⟨h1, h2, h33, -, -, h6, h7, -⟩ := hd
  have h60 : w 60 = some (.inr (1, [.int (nI 0), .ref 62, .ref 63, .ref 64])) := by rw [← h6]; rfl
  simp only [pe72, z72_0, z72_1, z72_4, z72_7, pm_kv_some, pm_kw_some, pm_k_some, pm_k_void, pm_vc_some, pm_kl_some, pg5_0, pg5_1, pg5_2, pg5_3, pg5_4, pg5_5, pg5_6, pg1_0, pg1_1, pg1_2, pg1_3, h2, h60]
  rw [if_neg (by decide)]
  simp only [z72_10, z72_11]
/-- a Year with its newest change taken back: kind, quarter, what was there -/
def ab_un (Y : Nat → Nat → Int32) (n ic : Nat) (k : Int32) (q : Nat) (f : Int32) : Nat → Nat → Int32 :=
  ab_y (Y 0 0) (if k = 2 then upd (Y 1) q f else Y 1) (if k = 0 ∨ k = 1 ∨ k = 2 then Y 2 else upd (Y 2) q f) (if k = 0 then nI (n - 1) else nI n) (Y 4) (Y 5) (Y 6) (if k = 1 then nI (ic - 1) else nI ic) (Y 8) (Y 9) (Y 10) (Y 11)
/-- the world with this Year -/
def pm_YW (w : pm_H) (y : Nat) (Y : Nat → Nat → Int32) : pm_H := pm_Yw w y (Y 0 0) (Y 1) (Y 2) (Y 3 0) (Y 4) (Y 5) (Y 6) (Y 7 0) (Y 8) (Y 9) (Y 10) (Y 11)
theorem pm_Hw_hw {c c' : Int32} {K Q F K' Q' F' : Nat → Int32} : pm_Hw (pm_Hw w c K Q F) c' K' Q' F' = pm_Hw w c' K' Q' F' := by
  funext k; unfold pm_Hw
  by_cases e : k = 60
  · simp [e]
  · by_cases e2 : k = 62
    · simp [e2]
    · by_cases e3 : k = 63
      · simp [e3]
      · by_cases e4 : k = 64
        · simp [e4]
        · simp [e, e2, e3, e4]
theorem d_undo (hd : pm_Desk w y z fk B t (h + 1) K Q F Y) (hh : h < 10) {n ic q : Nat} (hn : Y 3 0 = nI n) (h20 : n ≤ 20) (hic : Y 7 0 = nI ic) (h8 : ic ≤ 8) (hk0 : K h = 0 → 0 < n) (hk1 : K h = 1 → 0 < ic) (hq : ¬ K h = 0 → ¬ K h = 1 → Q h = nI q ∧ q < 4) : pm_call 72 [.ref 0] w = some (some (.int (nI h)), pm_YW (pm_Hw w (nI h) K Q F) y (ab_un Y n ic (K h) q (F h))) := by
  obtain ⟨h1, h2, h33, -, -, h6, h7, -⟩ := hd
  have hin : vp_in (nI h) 10 := vp_in_nI hh (by omega)
  have h60 : w 60 = some (.inr (1, [.int (nI (h + 1)), .ref 62, .ref 63, .ref 64])) := by rw [← h6]; rfl
  have hu : pm_up w 60 (.inr (1, [.int (nI h), .ref 62, .ref 63, .ref 64])) = pm_Hw w (nI h) K Q F := by
    have h9 := hu60 (w := w) (c := nI (h + 1)) (K := K) (Q := Q) (F := F) (c' := nI h)
    rw [h6] at h9
    exact h9
  have hY' : pm_Yr (pm_Hw w (nI h) K Q F) y Y := pm_Yr_of h7 (fun k _ _ => hwo (by omega))
  have h2' : pm_Hw w (nI h) K Q F 0 = some (.inr (5, [.ref 10, .ref 20, .ref 40, .ref 60, .ref y, .ref z, .int fk])) := by rw [hwo (by omega)]; exact h2
  have hS : ∀ Y' : Nat → Nat → Int32, pm_YW (pm_Hw w (nI h) K Q F) y Y' 0 = some (.inr (5, [.ref 10, .ref 20, .ref 40, .ref 60, .ref y, .ref z, .int fk])) := fun _ => by unfold pm_YW; rw [ywo (by omega)]; exact h2'
  have hS60 : ∀ Y' : Nat → Nat → Int32, pm_YW (pm_Hw w (nI h) K Q F) y Y' 60 = some (.inr (1, [.int (nI h), .ref 62, .ref 63, .ref 64])) := fun _ => by unfold pm_YW; rw [ywo (by omega)]; rfl
  have key : pm_call 11 [.ref 60, .ref y] w = some (none, pm_YW (pm_Hw w (nI h) K Q F) y (ab_un Y n ic (K h) q (F h))) := by
    simp only [pe11, z11_0, z11_1, z11_4, pm_kv_some, pm_kw_some, pm_k_some, pm_k_void, pm_vc_some, pm_kl_some, pg1_0, pg1_1, pg1_2, pg1_3, h60]
    rw [if_pos (by rw [← nI_0]; exact nI_lt (by omega) (by omega))]
    simp only [z11_8, z11_9, z11_10, z11_13, z11_14, z11_15, z11_18, z11_19, z11_22, z11_23, z11_26, z11_27, pm_kv_some, pm_kw_some, pm_k_some, pm_k_void, pm_vc_some, pm_kl_some, pg1_0, pg1_1, pg1_2, pg1_3, pp1_0, h60, nI_pred, hu, hw60, hw62, pm_ia_in hin, nI_clamp (show h < 2 ^ 31 by omega)]
    by_cases e0 : K h = 0
    · rw [if_pos e0]
      have hx := q_dropEvent (w := pm_Hw w (nI h) K Q F) (y := y) (f0 := Y 0 0) (p1 := Y 1) (p2 := Y 2) (p4 := Y 4) (p5 := Y 5) (p6 := Y 6) (f7 := Y 7 0) (p8 := Y 8) (p9 := Y 9) (p10 := Y 10) (p11 := Y 11) (hk0 e0) h20
      rw [← hn, ywe hY'] at hx
      simp only [z11_52, z11_53, z11_56, z11_115, pm_kv_some, pm_kw_some, pm_k_some, pm_k_void, pm_vc_some, pm_kl_some, hY'.1, hx, pm_YW, ab_un, ab_y, e0, hic]
      rfl
    rw [if_neg e0]
    by_cases e1 : K h = 1
    · rw [if_pos e1]
      have hx := q_dropInstrument (w := pm_Hw w (nI h) K Q F) (y := y) (f0 := Y 0 0) (p1 := Y 1) (p2 := Y 2) (f3 := Y 3 0) (p4 := Y 4) (p5 := Y 5) (p6 := Y 6) (p8 := Y 8) (p9 := Y 9) (p10 := Y 10) (p11 := Y 11) (hk1 e1) h8
      rw [← hic, ywe hY'] at hx
      simp only [z11_59, z11_60, z11_63, z11_115, pm_kv_some, pm_kw_some, pm_k_some, pm_k_void, pm_vc_some, pm_kl_some, hY'.1, hx, pm_YW, ab_un, ab_y, e1, hn]
      rfl
    rw [if_neg e1]
    obtain ⟨hq1, hq2⟩ := hq e0 e1
    have hiq : vp_in (nI q) 4 := vp_in_nI hq2 (by omega)
    by_cases e2 : K h = 2
    · rw [if_pos e2]
      have hx := yu2 (w := pm_Hw w (nI h) K Q F) (y := y) (f0 := Y 0 0) (p1 := Y 1) (p2 := Y 2) (f3 := Y 3 0) (p4 := Y 4) (p5 := Y 5) (p6 := Y 6) (f7 := Y 7 0) (p8 := Y 8) (p9 := Y 9) (p10 := Y 10) (p11 := Y 11) (q := upd (Y 1) q (F h))
      rw [ywe hY'] at hx
      simp only [z11_66, z11_67, z11_70, z11_71, z11_74, z11_75, z11_78, z11_79, z11_80, z11_83, z11_84, z11_87, z11_88, z11_89, z11_115, pm_kv_some, pm_kw_some, pm_k_some, pm_k_void, pm_vc_some, pm_kl_some, pg1_0, pg1_1, pg1_2, pg1_3, pg4_0, pg4_1, pg4_2, pg4_3, pg4_4, pg4_5, pg4_6, pg4_7, pg4_8, pg4_9, pg4_10, pg4_11, hY'.1, hY'.2.1, hw60, hw63, hw64, pm_ia_in hin, nI_clamp (show h < 2 ^ 31 by omega), hq1, pm_is_in hiq, nI_clamp (show q < 2 ^ 31 by omega), hx, pm_YW, ab_un, ab_y, e2, hn, hic]
      rfl
    · rw [if_neg e2]
      have hx := yu3 (w := pm_Hw w (nI h) K Q F) (y := y) (f0 := Y 0 0) (p1 := Y 1) (p2 := Y 2) (f3 := Y 3 0) (p4 := Y 4) (p5 := Y 5) (p6 := Y 6) (f7 := Y 7 0) (p8 := Y 8) (p9 := Y 9) (p10 := Y 10) (p11 := Y 11) (q := upd (Y 2) q (F h))
      rw [ywe hY'] at hx
      simp only [z11_92, z11_93, z11_96, z11_97, z11_100, z11_101, z11_104, z11_105, z11_106, z11_109, z11_110, z11_113, z11_114, z11_115, pm_kv_some, pm_kw_some, pm_k_some, pm_k_void, pm_vc_some, pm_kl_some, pg1_0, pg1_1, pg1_2, pg1_3, pg4_0, pg4_1, pg4_2, pg4_3, pg4_4, pg4_5, pg4_6, pg4_7, pg4_8, pg4_9, pg4_10, pg4_11, hY'.1, hY'.2.2.1, hw60, hw63, hw64, pm_ia_in hin, nI_clamp (show h < 2 ^ 31 by omega), hq1, pm_is_in hiq, nI_clamp (show q < 2 ^ 31 by omega), hx, pm_YW, ab_un, ab_y, hn, hic, if_neg e2, if_neg e0, if_neg e1, if_neg (show ¬ (K h = 0 ∨ K h = 1 ∨ K h = 2) from fun z => z.elim e0 (fun z => z.elim e1 e2))]
  simp only [pe72, z72_0, z72_1, z72_4, z72_7, pm_kv_some, pm_kw_some, pm_k_some, pm_k_void, pm_vc_some, pm_kl_some, pg5_0, pg5_1, pg5_2, pg5_3, pg5_4, pg5_5, pg5_6, pg1_0, pg1_1, pg1_2, pg1_3, h2, h60]
  rw [if_pos (by rw [← nI_0]; exact nI_lt (by omega) (by omega))]
  simp only [z72_12, z72_13, z72_16, z72_17, z72_20, z72_23, z72_24, z72_27, z72_30, pm_kv_some, pm_kw_some, pm_k_some, pm_k_void, pm_vc_some, pm_kl_some, pg5_0, pg5_1, pg5_2, pg5_3, pg5_4, pg5_5, pg5_6, pg1_0, pg1_1, pg1_2, pg1_3, h2, h60, key, hS, hS60]
theorem d_quarter (hd : pm_Desk w y z fk B t h K Q F Y) {q : Nat} (hq : q < 4) : pm_call 73 [.ref 0, .int (nI q), .int 0] w = some (some (.int (Y 1 q)), w) ∧ pm_call 73 [.ref 0, .int (nI q), .int 1] w = some (some (.int (Y 2 q)), w) := by
  obtain ⟨h1, h2, h33, -, -, h6, h7, -⟩ := hd
  obtain ⟨g0, g1, g2, g4, g5, g6, g8, g9, g10, g11⟩ := id h7
  have hin : vp_in (nI q) 4 := vp_in_nI hq (by omega)
  constructor
  · simp only [pe73, z73_0, z73_1, z73_4, pm_kv_some, pm_kw_some, pm_k_some, pm_k_void, pm_vc_some, pm_kl_some, q_isQuarter]
    rw [if_neg (nI_pos (by omega)), if_pos (show nI q < 4 from nI_lt (b := 4) hq (by omega)), if_neg (by decide)]
    simp only [z73_17, z73_18, z73_21, z73_22, z73_25, z73_28, z73_29, z73_30, pm_kv_some, pm_kw_some, pm_k_some, pm_k_void, pm_vc_some, pm_kl_some, pg5_0, pg5_1, pg5_2, pg5_3, pg5_4, pg5_5, pg5_6, pg4_0, pg4_1, pg4_2, pg4_3, pg4_4, pg4_5, pg4_6, pg4_7, pg4_8, pg4_9, pg4_10, pg4_11, h2, g0, g1, pm_ia_in hin, nI_clamp (show q < 2 ^ 31 by omega)]
    rfl
  · simp only [pe73, z73_0, z73_1, z73_4, pm_kv_some, pm_kw_some, pm_k_some, pm_k_void, pm_vc_some, pm_kl_some, q_isQuarter]
    rw [if_neg (nI_pos (by omega)), if_pos (show nI q < 4 from nI_lt (b := 4) hq (by omega)), if_neg (by decide)]
    simp only [z73_17, z73_18]
    rw [if_neg (by decide)]
    simp only [z73_31, z73_32, z73_33, z73_36, z73_37, z73_40, z73_43, z73_44, z73_45, pm_kv_some, pm_kw_some, pm_k_some, pm_k_void, pm_vc_some, pm_kl_some, pg5_0, pg5_1, pg5_2, pg5_3, pg5_4, pg5_5, pg5_6, pg4_0, pg4_1, pg4_2, pg4_3, pg4_4, pg4_5, pg4_6, pg4_7, pg4_8, pg4_9, pg4_10, pg4_11, h2, g0, g2, pm_ia_in hin, nI_clamp (show q < 2 ^ 31 by omega)]
    rfl
theorem d_weight (hd : pm_Desk w y z fk B t h K Q F Y) {n a b : Nat} (hn : Y 3 0 = nI n) (h20 : n ≤ 20) (hab : a ≤ b) (hb : b < 4) : pm_call 74 [.ref 0, .int (nI a), .int (nI b)] w = some (some (.long (ab_wt Y n ((nI b + 1) * 90) n 0 (nI a * 90) 0)), w) := by
  obtain ⟨h1, h2, h33, -, -, h6, h7, -⟩ := hd
  simp only [pe74, z74_0, z74_1, z74_2, z74_5, z74_6, z74_9, z74_10, z74_11, z74_14, pm_kv_some, pm_kw_some, pm_k_some, pm_k_void, pm_vc_some, pm_kl_some, pg5_0, pg5_1, pg5_2, pg5_3, pg5_4, pg5_5, pg5_6, h2, h7.1, q_requireRun hab hb, q_weightOf h7 hn h20]
theorem d_adds (hd : pm_Desk w y z fk B t h K Q F Y) {n ic i a b : Nat} (hn : Y 3 0 = nI n) (h20 : n ≤ 20) (hic : Y 7 0 = nI ic) (h8 : ic ≤ 8) (hi : i < ic) (hab : a ≤ b) (hb : b < 4) {g : Int32} : pm_call 76 [.ref 0, .int (nI i), .int (nI a), .int (nI b), .int g] w = some (some (.long (if g = 0 then (if ab_er (Y 1) (b + 1) 0 0 < ab_ff Y i then 0 else ab_aw Y n i a b) else ab_ae Y i a b)), w) := by
  obtain ⟨h1, h2, h33, -, -, h6, h7, -⟩ := hd
  have he : pm_call 51 [.ref y, .int 0, .int (nI b)] w = some (some (.long (ab_er (Y 1) (b + 1) 0 0)), w) := q_earningsOf (a := 0) h7 (by omega) hb
  have hpf : pm_call 50 [.ref y, .int (nI i)] w = some (some (.long (ab_ff Y i)), w) := q_profitFloor h7 (by omega)
  simp only [pe76, z76_0, z76_1, z76_2, z76_5, z76_6, z76_9, z76_10, z76_13, pm_kv_some, pm_kw_some, pm_k_some, pm_k_void, pm_vc_some, pm_kl_some, pg5_0, pg5_1, pg5_2, pg5_3, pg5_4, pg5_5, pg5_6, h2, h7.1, q_requireRun hab hb, q_hasInstrument h7, hic]
  rw [if_neg (nI_pos (by omega)), if_pos (nI_lt hi (by omega)), if_neg (by decide)]
  simp only [z76_26, z76_28]
  by_cases hg : g = 0
  · rw [if_pos hg, if_pos hg]
    simp only [z76_42, z76_43, z76_46, z76_47, z76_50, z76_51, z76_54, z76_55, z76_56, z76_59, z76_60, pm_kv_some, pm_kw_some, pm_k_some, pm_k_void, pm_vc_some, pm_kl_some, pg5_0, pg5_1, pg5_2, pg5_3, pg5_4, pg5_5, pg5_6, h2, h7.1, hpf, he, pm_lc_gt]
    by_cases hx : ab_er (Y 1) (b + 1) 0 0 < ab_ff Y i
    · rw [if_pos hx, if_pos hx]; simp only [z76_63, z76_64]
    · rw [if_neg hx, if_neg hx]
      simp only [z76_65, z76_66, z76_69, z76_70, z76_71, z76_72, z76_75, pm_kv_some, pm_kw_some, pm_k_some, pm_k_void, pm_vc_some, pm_kl_some, pg5_0, pg5_1, pg5_2, pg5_3, pg5_4, pg5_5, pg5_6, h2, h7.1, q_addedToWeight h7 hn h20 (show i < 8 by omega) hab hb]
  · rw [if_neg hg, if_neg hg]
    simp only [z76_31, z76_32, z76_35, z76_36, z76_37, z76_38, z76_41, pm_kv_some, pm_kw_some, pm_k_some, pm_k_void, pm_vc_some, pm_kl_some, pg5_0, pg5_1, pg5_2, pg5_3, pg5_4, pg5_5, pg5_6, h2, h7.1, q_addedToEarnings h7 (show i < 8 by omega)]
end PDK3
