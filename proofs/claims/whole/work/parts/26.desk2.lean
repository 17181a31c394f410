/-! THE DESK, part 2: events, instruments, telling, undoing -/
theorem pm_ixN {x : Int32} {n : Nat} (h0 : ¬ x < 0) (h : x < nI n) (hn : n < 2 ^ 31) : ∃ j, j < n ∧ x = nI j := by
  rcases pk_ix x hn with h1 | h1 | h1
  · exact absurd h1 h0
  · exact absurd (Int32.not_lt.mpr h1) (fun z => z h)
  · exact h1
/-- the last day told, 0 without one -/
def ab_ld (Y : Nat → Nat → Int32) (n : Nat) : Int32 := if n = 0 then 0 else Y 5 (n - 1)
theorem ab_ld_mx {Y : Nat → Nat → Int32} {n : Nat} (h : ¬ ab_ld Y n < 0) : ab_mx (if n = 0 then -1 else Y 5 (n - 1)) 0 = ab_ld Y n := by
  unfold ab_ld at *
  by_cases e : n = 0
  · rw [if_pos e, if_pos e]; rfl
  · rw [if_neg e] at h
    rw [if_neg e, if_neg e]
    unfold ab_mx
    rw [if_neg h]
def ab_mo (Y : Nat → Nat → Int32) (n : Nat) (s : Int32) : Int32 := if s = 2 then 9 else if s = 1 then ab_mn 99999 (ab_sh (Y 4) (Y 5) (Y 6) 359 n 0 (Y 0 0) - 1) else 99999
/-- what may be told -/
def ab_tok (Y : Nat → Nat → Int32) (n : Nat) (s d u : Int32) : Prop := ¬ s < 0 ∧ ¬ 2 < s ∧ ¬ d < ab_ld Y n ∧ ¬ 359 < d ∧ ¬ u < (if s = 2 then 2 else 1) ∧ ¬ ab_mo Y n s < u
def ab_room (Y : Nat → Nat → Int32) (n : Nat) (s : Int32) : Prop := n < 20 ∧ (s = 2 → ab_sc (Y 4) n 0 0 < 3)
/-- what may be granted -/
def ab_gok (s d u k : Int32) : Prop := ¬ s < 0 ∧ ¬ 3 < s ∧ ¬ d < 0 ∧ ¬ 359 < d ∧ ¬ u < 1 ∧ ¬ 9999 < u ∧ ¬ k < (if s = 0 then 1 else 0) ∧ ¬ (if s = 0 then 9999 else 99999) < k
section PDK2
variable {w : pm_H} {y z t h : Nat} {fk : Int32} {B K Q F : Nat → Int32} {Y : Nat → Nat → Int32}
theorem d_event (hd : pm_Desk w y z fk B t h K Q F Y) {n : Nat} (hn : Y 3 0 = nI n) (h20 : n ≤ 20) {k v : Int32} : pm_call 64 [.ref 0, .int k, .int v] w = some (some (.int (if k < 0 then -1 else if k < nI n then (if v = 0 then Y 4 k.toNatClampNeg else if v = 1 then Y 5 k.toNatClampNeg else if v = 2 then Y 6 k.toNatClampNeg else -1) else -1)), w) := by
  obtain ⟨h1, h2, h3, -, -, h6, h7, -⟩ := hd
  obtain ⟨g0, g1, g2, g4, g5, g6, g8, g9, g10, g11⟩ := id h7
  simp only [pe64, z64_0, z64_1]
  by_cases e1 : k < 0
  · rw [if_pos e1, if_pos e1]
    simp only [z64_15, z64_16]
  · rw [if_neg e1, if_neg e1]
    simp only [z64_4, z64_5, z64_6, z64_9, z64_12, pm_kv_some, pm_kw_some, pm_k_some, pm_k_void, pm_vc_some, pm_kl_some, pg5_0, pg5_1, pg5_2, pg5_3, pg5_4, pg5_5, pg5_6, pg4_0, pg4_1, pg4_2, pg4_3, pg4_4, pg4_5, pg4_6, pg4_7, pg4_8, pg4_9, pg4_10, pg4_11, h2, g0, hn]
    by_cases e2 : k < nI n
    · rw [if_pos e2, if_pos e2]
      obtain ⟨j, hj, rfl⟩ := pm_ixN e1 e2 (by omega)
      have hin : vp_in (nI j) 20 := vp_in_nI (by omega) (by omega)
      simp only [z64_17, z64_18, z64_44, z64_45, z64_48, z64_51, z64_52, z64_53, z64_54, z64_55, z64_58, z64_61, z64_62, z64_63, z64_64, z64_65, z64_68, z64_71, z64_72, z64_73, z64_74, z64_75, pm_kv_some, pm_kw_some, pm_k_some, pm_k_void, pm_vc_some, pm_kl_some, pg5_0, pg5_1, pg5_2, pg5_3, pg5_4, pg5_5, pg5_6, pg4_0, pg4_1, pg4_2, pg4_3, pg4_4, pg4_5, pg4_6, pg4_7, pg4_8, pg4_9, pg4_10, pg4_11, h2, g0, g4, g5, g6, pm_ia_in hin]
      by_cases e : v = 0
      · rw [if_pos e, if_pos e]
      rw [if_neg e, if_neg e]
      by_cases e : v = 1
      · rw [if_pos e, if_pos e]
      rw [if_neg e, if_neg e]
      by_cases e : v = 2
      · rw [if_pos e, if_pos e]
      rw [if_neg e, if_neg e]
    · rw [if_neg e2, if_neg e2]
      simp only [z64_15, z64_16]
theorem d_instrument (hd : pm_Desk w y z fk B t h K Q F Y) {n ic : Nat} (hn : Y 3 0 = nI n) (h20 : n ≤ 20) (hic : Y 7 0 = nI ic) (h8 : ic ≤ 8) {i v : Int32} : pm_call 65 [.ref 0, .int i, .int v] w = some (some (.int (if i < 0 then -1 else if i < nI ic then (if v = 0 then Y 8 i.toNatClampNeg else if v = 1 then Y 9 i.toNatClampNeg else if v = 2 then Y 10 i.toNatClampNeg else if v = 3 then Y 11 i.toNatClampNeg else if v = 4 then ab_old Y n i.toNatClampNeg else -1) else -1)), w) := by
  obtain ⟨h1, h2, h3, -, -, h6, h7, -⟩ := hd
  obtain ⟨g0, g1, g2, g4, g5, g6, g8, g9, g10, g11⟩ := id h7
  simp only [pe65, z65_0, z65_1, z65_4, z65_5, z65_8, pm_kv_some, pm_kw_some, pm_k_some, pm_k_void, pm_vc_some, pm_kl_some, pg5_0, pg5_1, pg5_2, pg5_3, pg5_4, pg5_5, pg5_6, h2, g0, q_hasInstrument h7, hic]
  by_cases e1 : i < 0
  · rw [if_pos e1, if_pos rfl, if_pos e1]
    simp only [z65_11, z65_12]
  · rw [if_neg e1, if_neg e1]
    by_cases e2 : i < nI ic
    · rw [if_pos e2, if_neg (by decide), if_pos e2]
      obtain ⟨j, hj, rfl⟩ := pm_ixN e1 e2 (by omega)
      have hin : vp_in (nI j) 8 := vp_in_nI (by omega) (by omega)
      simp only [z65_13, z65_14, z65_48, z65_49, z65_52, z65_55, z65_56, z65_57, z65_58, z65_59, z65_62, z65_65, z65_66, z65_67, z65_68, z65_69, z65_72, z65_75, z65_76, z65_77, z65_78, z65_79, z65_82, z65_85, z65_86, z65_87, z65_88, z65_89, z65_92, z65_93, z65_96, z65_97, z65_98, pm_kv_some, pm_kw_some, pm_k_some, pm_k_void, pm_vc_some, pm_kl_some, pg5_0, pg5_1, pg5_2, pg5_3, pg5_4, pg5_5, pg5_6, pg4_0, pg4_1, pg4_2, pg4_3, pg4_4, pg4_5, pg4_6, pg4_7, pg4_8, pg4_9, pg4_10, pg4_11, h2, g0, g8, g9, g10, g11, pm_ia_in hin, q_oldShares h7 hn h20 (show j < 8 by omega), nI_clamp (show j < 2 ^ 31 by omega), ab_old]
      by_cases e : v = 0
      · rw [if_pos e, if_pos e]
      rw [if_neg e, if_neg e]
      by_cases e : v = 1
      · rw [if_pos e, if_pos e]
      rw [if_neg e, if_neg e]
      by_cases e : v = 2
      · rw [if_pos e, if_pos e]
      rw [if_neg e, if_neg e]
      by_cases e : v = 3
      · rw [if_pos e, if_pos e]
      rw [if_neg e, if_neg e]
      by_cases e : v = 4
      · rw [if_pos e, if_pos e]
      rw [if_neg e, if_neg e]
    · rw [if_neg e2, if_pos rfl, if_neg e2]
      simp only [z65_11, z65_12]
theorem d_tells_bad (hd : pm_Desk w y z fk B t h K Q F Y) {n : Nat} (hn : Y 3 0 = nI n) (h20 : n ≤ 20) (hld : ¬ ab_ld Y n < 0) {s d u : Int32} (hno : ¬ ab_tok Y n s d u) : pm_call 66 [.ref 0, .int s, .int d, .int u] w = some (some (.int (-1)), w) := by
  obtain ⟨h1, h2, h3, -, -, h6, h7, -⟩ := hd
  simp only [pe66, z66_0, z66_1]
  by_cases e1 : s < 0
  · rw [if_pos e1]; simp only [z66_27, z66_28]
  rw [if_neg e1]; simp only [z66_4, z66_5, z66_6]
  by_cases e2 : 2 < s
  · rw [if_pos e2]; simp only [z66_27, z66_28]
  rw [if_neg e2]; simp only [z66_9, z66_10, z66_13, pm_kv_some, pm_kw_some, pm_k_some, pm_k_void, pm_vc_some, pm_kl_some, q_isDay]
  by_cases e3 : d < 0
  · rw [if_pos e3, if_pos rfl]; simp only [z66_27, z66_28]
  rw [if_neg e3]
  by_cases e4 : 359 < d
  · rw [if_pos e4, if_pos rfl]; simp only [z66_27, z66_28]
  rw [if_neg e4, if_neg (by decide)]
  simp only [z66_16, z66_17, z66_18, z66_21, z66_24, pm_kv_some, pm_kw_some, pm_k_some, pm_k_void, pm_vc_some, pm_kl_some, pg5_0, pg5_1, pg5_2, pg5_3, pg5_4, pg5_5, pg5_6, h2, h7.1, q_earliestDay h7 hn h20, ab_ld_mx hld]
  by_cases e5 : d < ab_ld Y n
  · rw [if_pos e5]; simp only [z66_27, z66_28]
  rw [if_neg e5]
  simp only [z66_29, z66_30, z66_31, z66_34, z66_35, z66_38, pm_kv_some, pm_kw_some, pm_k_some, pm_k_void, pm_vc_some, pm_kl_some, pg5_0, pg5_1, pg5_2, pg5_3, pg5_4, pg5_5, pg5_6, h2, h7.1, q_leastOfEvent]
  by_cases e6 : u < (if s = 2 then 2 else 1)
  · rw [if_pos e6]; simp only [z66_53, z66_54]
  rw [if_neg e6]
  simp only [z66_41, z66_42, z66_43, z66_46, z66_47, z66_50, pm_kv_some, pm_kw_some, pm_k_some, pm_k_void, pm_vc_some, pm_kl_some, pg5_0, pg5_1, pg5_2, pg5_3, pg5_4, pg5_5, pg5_6, h2, h7.1, q_mostOfEvent h7 hn h20]
  by_cases e7 : ab_mo Y n s < u
  · rw [if_pos (show (if s = 2 then 9 else if s = 1 then ab_mn 99999 (ab_sh (Y 4) (Y 5) (Y 6) 359 n 0 (Y 0 0) - 1) else 99999) < u from e7)]; simp only [z66_53, z66_54]
  exact absurd ⟨e1, e2, e5, e4, e6, e7⟩ hno
theorem d_tells_to (hd : pm_Desk w y z fk B t h K Q F Y) {n : Nat} (hn : Y 3 0 = nI n) (h20 : n ≤ 20) (hld : ¬ ab_ld Y n < 0) {s d u : Int32} (hok : ab_tok Y n s d u) : pm_call 66 [.ref 0, .int s, .int d, .int u] w = pm_ev 66 55 [some (.ref 0), some (.int s), some (.int d), some (.int u)] [] w := by
  obtain ⟨h1, h2, h3, -, -, h6, h7, -⟩ := hd
  obtain ⟨e1, e2, e5, e4, e6, e7⟩ := hok
  have e3 : ¬ d < 0 := fun z => hld (Int32.lt_of_le_of_lt (Int32.not_lt.mp e5) z)
  simp only [pe66, z66_0, z66_1]
  rw [if_neg e1]; simp only [z66_4, z66_5, z66_6]
  rw [if_neg e2]; simp only [z66_9, z66_10, z66_13, pm_kv_some, pm_kw_some, pm_k_some, pm_k_void, pm_vc_some, pm_kl_some, q_isDay]
  rw [if_neg e3, if_neg e4, if_neg (by decide)]
  simp only [z66_16, z66_17, z66_18, z66_21, z66_24, pm_kv_some, pm_kw_some, pm_k_some, pm_k_void, pm_vc_some, pm_kl_some, pg5_0, pg5_1, pg5_2, pg5_3, pg5_4, pg5_5, pg5_6, h2, h7.1, q_earliestDay h7 hn h20, ab_ld_mx hld]
  rw [if_neg e5]
  simp only [z66_29, z66_30, z66_31, z66_34, z66_35, z66_38, pm_kv_some, pm_kw_some, pm_k_some, pm_k_void, pm_vc_some, pm_kl_some, pg5_0, pg5_1, pg5_2, pg5_3, pg5_4, pg5_5, pg5_6, h2, h7.1, q_leastOfEvent]
  rw [if_neg e6]
  simp only [z66_41, z66_42, z66_43, z66_46, z66_47, z66_50, pm_kv_some, pm_kw_some, pm_k_some, pm_k_void, pm_vc_some, pm_kl_some, pg5_0, pg5_1, pg5_2, pg5_3, pg5_4, pg5_5, pg5_6, h2, h7.1, q_mostOfEvent h7 hn h20]
  rw [if_neg (show ¬ (if s = 2 then 9 else if s = 1 then ab_mn 99999 (ab_sh (Y 4) (Y 5) (Y 6) 359 n 0 (Y 0 0) - 1) else 99999) < u from e7)]
theorem d_tells_full (hd : pm_Desk w y z fk B t h K Q F Y) {n : Nat} (hn : Y 3 0 = nI n) (h20 : n ≤ 20) (hld : ¬ ab_ld Y n < 0) {s d u : Int32} (hok : ab_tok Y n s d u) (hr : ¬ ab_room Y n s) : pm_call 66 [.ref 0, .int s, .int d, .int u] w = some (some (.int (-2)), w) := by
  rw [d_tells_to hd hn h20 hld hok]
  obtain ⟨h1, h2, h3, -, -, h6, h7, -⟩ := hd
  simp only [z66_55, z66_56, z66_59, z66_60, z66_63, pm_kv_some, pm_kw_some, pm_k_some, pm_k_void, pm_vc_some, pm_kl_some, pg5_0, pg5_1, pg5_2, pg5_3, pg5_4, pg5_5, pg5_6, h2, h7.1, q_hasRoomForEvent h7 hn h20]
  rw [if_neg (show ¬ (n < 20 ∧ (s = 2 → ab_sc (Y 4) n 0 0 < 3)) from hr), if_pos rfl]
  simp only [z66_66, z66_68]
/-- the history with one entry more -/
def ab_hk (h : Nat) (K : Nat → Int32) (a : Int32) : Nat → Int32 := if h < 10 then upd K h a else upd (ab_so 10 K) 9 a
def ab_hn (h : Nat) : Nat := if h < 10 then h + 1 else 10
theorem d_keep {a b d : Int32} (hh : h ≤ 10) : pm_call 9 [.ref 60, .int a, .int b, .int d] (pm_Hw w (nI h) K Q F) = some (none, pm_Hw w (nI (ab_hn h)) (ab_hk h K a) (ab_hk h Q b) (ab_hk h F d)) := by
  unfold ab_hk ab_hn
  by_cases e : h < 10
  · rw [if_pos e, if_pos e, if_pos e, if_pos e]; exact q_keep e
  · have : h = 10 := by omega
    subst this
    rw [if_neg e, if_neg e, if_neg e, if_neg e]; exact q_keep10
theorem d_tells_ok (hd : pm_Desk w y z fk B t h K Q F Y) {n : Nat} (hn : Y 3 0 = nI n) (h20 : n ≤ 20) (hld : ¬ ab_ld Y n < 0) (hh : h ≤ 10) {s d u : Int32} (hok : ab_tok Y n s d u) (hr : ab_room Y n s) : pm_call 66 [.ref 0, .int s, .int d, .int u] w = some (some (.int (nI (n + 1))), pm_Hw (pm_Yw w y (Y 0 0) (Y 1) (Y 2) (nI (n + 1)) (upd (Y 4) n s) (upd (Y 5) n d) (upd (Y 6) n u) (Y 7 0) (Y 8) (Y 9) (Y 10) (Y 11)) (nI (ab_hn h)) (ab_hk h K 0) (ab_hk h Q 0) (ab_hk h F 0)) := by
  rw [d_tells_to hd hn h20 hld hok]
  obtain ⟨h1, h2, h3, -, -, h6, h7, -⟩ := hd
  have hy : 64 < y := by omega
  have ha := q_addEvent (w := w) (y := y) (f0 := Y 0 0) (p1 := Y 1) (p2 := Y 2) (p4 := Y 4) (p5 := Y 5) (p6 := Y 6) (f7 := Y 7 0) (p8 := Y 8) (p9 := Y 9) (p10 := Y 10) (p11 := Y 11) (s := s) (d := d) (u := u) hr.1
  rw [← hn, ywe h7] at ha
  have hH : ∀ (f0 f3 f7 : Int32) (p1 p2 p4 p5 p6 p8 p9 p10 p11 : Nat → Int32), pm_Hw (pm_Yw w y f0 p1 p2 f3 p4 p5 p6 f7 p8 p9 p10 p11) (nI h) K Q F = pm_Yw w y f0 p1 p2 f3 p4 p5 p6 f7 p8 p9 p10 p11 := fun _ _ _ _ _ _ _ _ _ _ _ _ => pm_Hw_of h6 (fun k _ _ => ywo (by omega))
  have hk := d_keep (w := pm_Yw w y (Y 0 0) (Y 1) (Y 2) (nI (n + 1)) (upd (Y 4) n s) (upd (Y 5) n d) (upd (Y 6) n u) (Y 7 0) (Y 8) (Y 9) (Y 10) (Y 11)) (K := K) (Q := Q) (F := F) (a := 0) (b := 0) (d := 0) hh
  rw [hH] at hk
  have h2' : pm_Yw w y (Y 0 0) (Y 1) (Y 2) (nI (n + 1)) (upd (Y 4) n s) (upd (Y 5) n d) (upd (Y 6) n u) (Y 7 0) (Y 8) (Y 9) (Y 10) (Y 11) 0 = some (.inr (5, [.ref 10, .ref 20, .ref 40, .ref 60, .ref y, .ref z, .int fk])) := by rw [ywo (by omega)]; exact h2
  have h60 : pm_Yw w y (Y 0 0) (Y 1) (Y 2) (nI (n + 1)) (upd (Y 4) n s) (upd (Y 5) n d) (upd (Y 6) n u) (Y 7 0) (Y 8) (Y 9) (Y 10) (Y 11) 60 = some (.inr (1, [.int (nI h), .ref 62, .ref 63, .ref 64])) := by rw [ywo (by omega), ← h6]; rfl
  simp only [z66_55, z66_56, z66_59, z66_60, z66_63, pm_kv_some, pm_kw_some, pm_k_some, pm_k_void, pm_vc_some, pm_kl_some, pg5_0, pg5_1, pg5_2, pg5_3, pg5_4, pg5_5, pg5_6, h2, h7.1, q_hasRoomForEvent h7 hn h20]
  rw [if_pos (show n < 20 ∧ (s = 2 → ab_sc (Y 4) n 0 0 < 3) from hr), if_neg (by decide)]
  simp only [z66_69, z66_70, z66_73, z66_74, z66_75, z66_76, z66_79, z66_80, z66_83, z66_84, z66_85, z66_86, z66_89, z66_90, z66_93, z66_96, pm_kv_some, pm_kw_some, pm_k_some, pm_k_void, pm_vc_some, pm_kl_some, pg5_0, pg5_1, pg5_2, pg5_3, pg5_4, pg5_5, pg5_6, pg4_0, pg4_1, pg4_2, pg4_3, pg4_4, pg4_5, pg4_6, pg4_7, pg4_8, pg4_9, pg4_10, pg4_11, h2, h7.1, ha, h2', h60, hk, hwo (show 0 < 60 ∨ 64 < 0 by omega), hwo (show y < 60 ∨ 64 < y by omega), yw0]
theorem d_grants_bad (hd : pm_Desk w y z fk B t h K Q F Y) {s d u k : Int32} (hno : ¬ ab_gok s d u k) : pm_call 67 [.ref 0, .int s, .int d, .int u, .int k] w = some (some (.int (-1)), w) := by
  simp only [pe67, z67_0, z67_1]
  by_cases e1 : s < 0
  · rw [if_pos e1]; simp only [z67_28, z67_29]
  rw [if_neg e1]; simp only [z67_4, z67_5, z67_6]
  by_cases e2 : 3 < s
  · rw [if_pos e2]; simp only [z67_28, z67_29]
  rw [if_neg e2]; simp only [z67_9, z67_10, z67_13, pm_kv_some, pm_kw_some, pm_k_some, pm_k_void, pm_vc_some, pm_kl_some, q_isDay]
  by_cases e3 : d < 0
  · rw [if_pos e3, if_pos rfl]; simp only [z67_28, z67_29]
  rw [if_neg e3]
  by_cases e4 : 359 < d
  · rw [if_pos e4, if_pos rfl]; simp only [z67_28, z67_29]
  rw [if_neg e4, if_neg (by decide)]
  simp only [z67_16, z67_17, z67_18]
  by_cases e5 : u < 1
  · rw [if_pos e5]; simp only [z67_28, z67_29]
  rw [if_neg e5]
  simp only [z67_21, z67_22, z67_25]
  by_cases e6 : 9999 < u
  · rw [if_pos e6]; simp only [z67_28, z67_29]
  rw [if_neg e6]
  simp only [z67_30, z67_32, z67_33, z67_36, pm_kv_some, pm_kw_some, pm_k_some, pm_k_void, pm_vc_some, pm_kl_some, q_leastTerm]
  by_cases e7 : k < (if s = 0 then 1 else 0)
  · rw [if_pos e7]; simp only [z67_48, z67_49]
  rw [if_neg e7]
  simp only [z67_39, z67_41, z67_42, z67_45, pm_kv_some, pm_kw_some, pm_k_some, pm_k_void, pm_vc_some, pm_kl_some, q_mostTerm]
  by_cases e8 : (if s = 0 then 9999 else 99999) < k
  · rw [if_pos e8]; simp only [z67_48, z67_49]
  exact absurd ⟨e1, e2, e3, e4, e5, e6, e7, e8⟩ hno
theorem d_grants_to {s d u k : Int32} (hok : ab_gok s d u k) : pm_call 67 [.ref 0, .int s, .int d, .int u, .int k] w = pm_ev 67 50 [some (.ref 0), some (.int s), some (.int d), some (.int u), some (.int k)] [] w := by
  obtain ⟨e1, e2, e3, e4, e5, e6, e7, e8⟩ := hok
  simp only [pe67, z67_0, z67_1]
  rw [if_neg e1]; simp only [z67_4, z67_5, z67_6]
  rw [if_neg e2]; simp only [z67_9, z67_10, z67_13, pm_kv_some, pm_kw_some, pm_k_some, pm_k_void, pm_vc_some, pm_kl_some, q_isDay]
  rw [if_neg e3, if_neg e4, if_neg (by decide)]
  simp only [z67_16, z67_17, z67_18]
  rw [if_neg e5]
  simp only [z67_21, z67_22, z67_25]
  rw [if_neg e6]
  simp only [z67_30, z67_32, z67_33, z67_36, pm_kv_some, pm_kw_some, pm_k_some, pm_k_void, pm_vc_some, pm_kl_some, q_leastTerm]
  rw [if_neg e7]
  simp only [z67_39, z67_41, z67_42, z67_45, pm_kv_some, pm_kw_some, pm_k_some, pm_k_void, pm_vc_some, pm_kl_some, q_mostTerm]
  rw [if_neg e8]
theorem d_grants_full (hd : pm_Desk w y z fk B t h K Q F Y) (hic : Y 7 0 = nI 8) {s d u k : Int32} (hok : ab_gok s d u k) : pm_call 67 [.ref 0, .int s, .int d, .int u, .int k] w = some (some (.int (-2)), w) := by
  rw [d_grants_to hok]
  obtain ⟨h1, h2, h3, -, -, h6, h7, -⟩ := hd
  simp only [z67_50, z67_51, z67_54, z67_57, pm_kv_some, pm_kw_some, pm_k_some, pm_k_void, pm_vc_some, pm_kl_some, pg5_0, pg5_1, pg5_2, pg5_3, pg5_4, pg5_5, pg5_6, h2, h7.1, q_hasRoomForInstrument h7, hic]
  rw [if_neg (show ¬ nI 8 < 8 by decide), if_pos rfl]
  simp only [z67_60, z67_62]
theorem d_grants_ok (hd : pm_Desk w y z fk B t h K Q F Y) {ic : Nat} (hic : Y 7 0 = nI ic) (h8 : ic < 8) (hh : h ≤ 10) {s d u k : Int32} (hok : ab_gok s d u k) : pm_call 67 [.ref 0, .int s, .int d, .int u, .int k] w = some (some (.int (nI ic)), pm_Hw (pm_Yw w y (Y 0 0) (Y 1) (Y 2) (Y 3 0) (Y 4) (Y 5) (Y 6) (nI (ic + 1)) (upd (Y 8) ic s) (upd (Y 9) ic d) (upd (Y 10) ic u) (upd (Y 11) ic k)) (nI (ab_hn h)) (ab_hk h K 1) (ab_hk h Q 0) (ab_hk h F 0)) := by
  rw [d_grants_to hok]
  obtain ⟨h1, h2, h3, -, -, h6, h7, -⟩ := hd
  have hy : 64 < y := by omega
  have ha := q_addInstrument (w := w) (y := y) (f0 := Y 0 0) (p1 := Y 1) (p2 := Y 2) (f3 := Y 3 0) (p4 := Y 4) (p5 := Y 5) (p6 := Y 6) (p8 := Y 8) (p9 := Y 9) (p10 := Y 10) (p11 := Y 11) (s := s) (d := d) (u := u) (t := k) h8
  rw [← hic, ywe h7] at ha
  have hH : ∀ (f0 f3 f7 : Int32) (p1 p2 p4 p5 p6 p8 p9 p10 p11 : Nat → Int32), pm_Hw (pm_Yw w y f0 p1 p2 f3 p4 p5 p6 f7 p8 p9 p10 p11) (nI h) K Q F = pm_Yw w y f0 p1 p2 f3 p4 p5 p6 f7 p8 p9 p10 p11 := fun _ _ _ _ _ _ _ _ _ _ _ _ => pm_Hw_of h6 (fun k _ _ => ywo (by omega))
  have hk := d_keep (w := pm_Yw w y (Y 0 0) (Y 1) (Y 2) (Y 3 0) (Y 4) (Y 5) (Y 6) (nI (ic + 1)) (upd (Y 8) ic s) (upd (Y 9) ic d) (upd (Y 10) ic u) (upd (Y 11) ic k)) (K := K) (Q := Q) (F := F) (a := 1) (b := 0) (d := 0) hh
  rw [hH] at hk
  have h2' : pm_Yw w y (Y 0 0) (Y 1) (Y 2) (Y 3 0) (Y 4) (Y 5) (Y 6) (nI (ic + 1)) (upd (Y 8) ic s) (upd (Y 9) ic d) (upd (Y 10) ic u) (upd (Y 11) ic k) 0 = some (.inr (5, [.ref 10, .ref 20, .ref 40, .ref 60, .ref y, .ref z, .int fk])) := by rw [ywo (by omega)]; exact h2
  have h60 : pm_Yw w y (Y 0 0) (Y 1) (Y 2) (Y 3 0) (Y 4) (Y 5) (Y 6) (nI (ic + 1)) (upd (Y 8) ic s) (upd (Y 9) ic d) (upd (Y 10) ic u) (upd (Y 11) ic k) 60 = some (.inr (1, [.int (nI h), .ref 62, .ref 63, .ref 64])) := by rw [ywo (by omega), ← h6]; rfl
  simp only [z67_50, z67_51, z67_54, z67_57, pm_kv_some, pm_kw_some, pm_k_some, pm_k_void, pm_vc_some, pm_kl_some, pg5_0, pg5_1, pg5_2, pg5_3, pg5_4, pg5_5, pg5_6, h2, h7.1, q_hasRoomForInstrument h7]
  rw [if_pos (show Y 7 0 < 8 by rw [hic]; exact nI_lt (b := 8) h8 (by omega)), if_neg (by decide)]
  simp only [z67_63, z67_64, z67_67, z67_68, z67_69, z67_70, z67_72, z67_75, z67_76, z67_79, z67_80, z67_81, z67_82, z67_85, z67_86, z67_89, z67_92, z67_93, z67_94, pm_kv_some, pm_kw_some, pm_k_some, pm_k_void, pm_vc_some, pm_kl_some, pg5_0, pg5_1, pg5_2, pg5_3, pg5_4, pg5_5, pg5_6, pg4_0, pg4_1, pg4_2, pg4_3, pg4_4, pg4_5, pg4_6, pg4_7, pg4_8, pg4_9, pg4_10, pg4_11, h2, h7.1, ha, h2', h60, hk, hwo (show 0 < 60 ∨ 64 < 0 by omega), hwo (show y < 60 ∨ 64 < y by omega), yw0, nI_pred]
end PDK2
