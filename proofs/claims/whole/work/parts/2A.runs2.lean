/-! THE DESK, part 5: with, priced, profit, ifSplit -/
def ab_set (Y : Nat → Nat → Int32) (j : Nat) (f : Nat → Int32) : Nat → Nat → Int32 := fun i => if i = j then f else Y i
section PDK5
variable {w : pm_H} {y z t h n ic a b : Nat} {fk : Int32} {B K Q F : Nat → Int32} {Y Y' : Nat → Nat → Int32} {lo : Int32}
theorem pm_YWr : pm_Yr (pm_YW w y Y) y Y := ⟨yw0, yw2, yw3, yw5, yw6, yw7, yw9, yw10, yw11, yw12⟩
theorem pm_YWo {k : Nat} (hk : k < y ∨ y + 12 < k) : pm_YW w y Y k = w k := ywo hk
theorem pm_YWe (hY : pm_Yr w y Y) : pm_YW w y Y = w := ywe hY
theorem pm_YWW : pm_YW (pm_YW w y Y) y Y' = pm_YW w y Y' := by
  funext k
  by_cases hk : k < y ∨ y + 12 < k
  · rw [pm_YWo hk, pm_YWo hk, pm_YWo hk]
  · unfold pm_YW pm_Yw
    by_cases e0 : k = y
    · simp [e0]
    by_cases e1 : k = y + 2
    · simp [e1]
    by_cases e2 : k = y + 3
    · simp [e2]
    by_cases e3 : k = y + 5
    · simp [e3]
    by_cases e4 : k = y + 6
    · simp [e4]
    by_cases e5 : k = y + 7
    · simp [e5]
    by_cases e6 : k = y + 9
    · simp [e6]
    by_cases e7 : k = y + 10
    · simp [e7]
    by_cases e8 : k = y + 11
    · simp [e8]
    by_cases e9 : k = y + 12
    · simp [e9]
    simp [e0, e1, e2, e3, e4, e5, e6, e7, e8, e9]
theorem pm_YW_up2 {f : Nat → Int32} (hY : pm_Yr w y Y) : pm_up w (y + 2) (.inl (0, 4, .inl f)) = pm_YW w y (ab_set Y 1 f) := by
  have h9 := yu2 (w := w) (y := y) (f0 := Y 0 0) (p1 := Y 1) (p2 := Y 2) (f3 := Y 3 0) (p4 := Y 4) (p5 := Y 5) (p6 := Y 6) (f7 := Y 7 0) (p8 := Y 8) (p9 := Y 9) (p10 := Y 10) (p11 := Y 11) (q := f)
  rw [ywe hY] at h9
  exact h9
theorem pm_YW_up3 {f : Nat → Int32} (hY : pm_Yr w y Y) : pm_up w (y + 3) (.inl (0, 4, .inl f)) = pm_YW w y (ab_set Y 2 f) := by
  have h9 := yu3 (w := w) (y := y) (f0 := Y 0 0) (p1 := Y 1) (p2 := Y 2) (f3 := Y 3 0) (p4 := Y 4) (p5 := Y 5) (p6 := Y 6) (f7 := Y 7 0) (p8 := Y 8) (p9 := Y 9) (p10 := Y 10) (p11 := Y 11) (q := f)
  rw [ywe hY] at h9
  exact h9
/-- a desk with another Year -/
theorem pm_Desk.year (hd : pm_Desk w y z fk B t h K Q F Y) : pm_Desk (pm_YW w y Y') y z fk B t h K Q F Y' := by
  obtain ⟨h1, h2, h3, ⟨r1, r2, r3, r4, r5, r6, h4⟩, h5, h6, h7, Z, h8⟩ := hd
  exact ⟨h1, by rw [pm_YWo (by omega)]; exact h2, pm_Tw_of h3 (pm_YWo (by omega)) (pm_YWo (by omega)), ⟨r1, r2, r3, r4, r5, r6, by rw [pm_YWo (by omega)]; exact h4⟩, h5.of (fun k _ _ => pm_YWo (by omega)), pm_Hw_of h6 (fun k _ _ => pm_YWo (by omega)), pm_YWr, Z, pm_Yr_of h8 (fun k _ _ => pm_YWo (by omega))⟩
theorem ab_upd_back {f : Nat → Int32} {q : Nat} {v : Int32} : upd (upd f q v) q (f q) = f := by
  funext k
  unfold upd
  by_cases e : k = q
  · simp [e]
  · simp [e]
theorem d_priced_bad (hab : a ≤ b) (hb : b < 4) {q v : Int32} (hno : ¬ (¬ q < 0 ∧ q < 4 ∧ ¬ v < 1 ∧ ¬ 9999 < v)) : pm_call 82 [.ref 0, .int q, .int v, .int (nI a), .int (nI b)] w = some (some (.int (-1000000000)), w) := by
  simp only [pe82, z82_0, z82_1, z82_3, z82_6, z82_7, z82_10, pm_kv_some, pm_kw_some, pm_k_some, pm_k_void, pm_vc_some, pm_kl_some, q_requireRun hab hb, q_isQuarter]
  by_cases e1 : q < 0
  · rw [if_pos e1, if_pos rfl]; simp only [z82_20, z82_22]
  rw [if_neg e1]
  by_cases e2 : q < 4
  · rw [if_pos e2, if_neg (by decide)]
    simp only [z82_13, z82_14, z82_17, pm_kv_some, pm_kw_some, pm_k_some, pm_k_void, pm_vc_some, pm_kl_some, q_isPrice]
    by_cases e3 : v < 1
    · rw [if_pos e3, if_pos rfl]; simp only [z82_20, z82_22]
    rw [if_neg e3]
    by_cases e4 : 9999 < v
    · rw [if_pos e4, if_pos rfl]; simp only [z82_20, z82_22]
    exact absurd ⟨e1, e2, e3, e4⟩ hno
  · rw [if_neg e2, if_pos rfl]; simp only [z82_20, z82_22]
theorem d_priced_ok (hd : pm_Desk w y z fk B t h K Q F Y) (hn : Y 3 0 = nI n) (h20 : n ≤ 20) (hic : Y 7 0 = nI ic) (h8 : ic ≤ 8) (hab : a ≤ b) (hb : b < 4) {q : Nat} (hq : q < 4) {v : Int32} (h3 : ¬ v < 1) (h4 : ¬ 9999 < v) : ∃ w', pm_call 82 [.ref 0, .int (nI q), .int v, .int (nI a), .int (nI b)] w = some (some (.int (ab_dil (ab_set Y 2 (upd (Y 2) q v)) n ic a b (-1))), w') ∧ pm_Desk w' y z fk B t h K Q F Y ∧ ∀ k, 112 < k → w' k = w k := by
  obtain ⟨h1, h2, h33, -, h5, h6, h7, -⟩ := id hd
  obtain ⟨g0, g1, g2, -⟩ := id h7
  have hin : vp_in (nI q) 4 := vp_in_nI hq (by omega)
  have hd1 : pm_Desk (pm_YW w y (ab_set Y 2 (upd (Y 2) q v))) y z fk B t h K Q F (ab_set Y 2 (upd (Y 2) q v)) := hd.year
  obtain ⟨w2, hl, hd2, hf⟩ := d_leaving (lo := -1) hd1 (show (ab_set Y 2 (upd (Y 2) q v)) 3 0 = nI n from hn) h20 (show (ab_set Y 2 (upd (Y 2) q v)) 7 0 = nI ic from hic) h8 hab hb
  have hY2 := hd2.2.2.2.2.2.2.1
  have hb2 := pm_YW_up3 (f := upd (upd (Y 2) q v) q (Y 2 q)) hY2
  rw [ab_upd_back] at hb2
  refine ⟨pm_YW w2 y (ab_set (ab_set Y 2 (upd (Y 2) q v)) 2 (Y 2)), ?_, ?_, fun k hk => ?_⟩
  · simp only [pe82, z82_0, z82_1, z82_3, z82_6, z82_7, z82_10, pm_kv_some, pm_kw_some, pm_k_some, pm_k_void, pm_vc_some, pm_kl_some, q_requireRun hab hb, q_isQuarter]
    rw [if_neg (nI_pos (by omega)), if_pos (show nI q < 4 from nI_lt (b := 4) hq (by omega)), if_neg (by decide)]
    simp only [z82_13, z82_14, z82_17, pm_kv_some, pm_kw_some, pm_k_some, pm_k_void, pm_vc_some, pm_kl_some, q_isPrice]
    rw [if_neg h3, if_neg h4, if_neg (by decide)]
    simp only [z82_23, z82_24, z82_27, z82_30, z82_31, z82_32, z82_34, z82_35, z82_38, z82_41, z82_42, z82_43, z82_44, z82_45, z82_46, z82_47, z82_49, z82_52, z82_54, z82_55, z82_58, z82_61, z82_62, z82_64, z82_65, z82_67, pm_kv_some, pm_kw_some, pm_k_some, pm_k_void, pm_vc_some, pm_kl_some, pg5_0, pg5_1, pg5_2, pg5_3, pg5_4, pg5_5, pg5_6, pg4_0, pg4_1, pg4_2, pg4_3, pg4_4, pg4_5, pg4_6, pg4_7, pg4_8, pg4_9, pg4_10, pg4_11, h2, g0, g2, pm_ia_in hin, pm_is_in hin, nI_clamp (show q < 2 ^ 31 by omega), pm_YW_up3 h7, hd1.2.1, hl, hd2.2.1, hY2.1, hY2.2.2.1]
    show some (_, pm_up w2 (y + 3) (.inl (0, 4, .inl (upd (upd (Y 2) q v) q (Y 2 q))))) = _
    rw [ab_upd_back, hb2]
  · have e : (ab_set (ab_set Y 2 (upd (Y 2) q v)) 2 (Y 2)) = Y := by
      funext j
      unfold ab_set
      by_cases e : j = 2
      · simp [e]
      · simp [e]
    rw [e]
    exact hd2.year
  · rw [pm_YWo (by omega), hf k (by omega), pm_YWo (by omega)]
theorem d_with_bad (hd : pm_Desk w y z fk B t h K Q F Y) (hab : a ≤ b) (hb : b < 4) {s : Int32} (hno : s < 0 ∨ ¬ s < 1 <<< (Y 7 0 &&& 31)) : pm_call 81 [.ref 0, .int s, .int (nI a), .int (nI b)] w = some (some (.int (-1000000000)), w) := by
  obtain ⟨h1, h2, h33, -, h5, h6, h7, -⟩ := id hd
  simp only [pe81, z81_0, z81_1, z81_2, z81_5, z81_6, pm_kv_some, pm_kw_some, pm_k_some, pm_k_void, pm_vc_some, pm_kl_some, q_requireRun hab hb]
  by_cases e1 : s < 0
  · rw [if_pos e1]; simp only [z81_22, z81_24]
  rw [if_neg e1]
  simp only [z81_9, z81_10, z81_11, z81_12, z81_15, z81_18, z81_19, pm_kv_some, pm_kw_some, pm_k_some, pm_k_void, pm_vc_some, pm_kl_some, pg5_0, pg5_1, pg5_2, pg5_3, pg5_4, pg5_5, pg5_6, pg4_0, pg4_1, pg4_2, pg4_3, pg4_4, pg4_5, pg4_6, pg4_7, pg4_8, pg4_9, pg4_10, pg4_11, h2, h7.1]
  rw [if_neg (hno.resolve_left e1)]
  simp only [z81_22, z81_24]
def ab_with (Y : Nat → Nat → Int32) (n ic a b : Nat) (s : Int32) : Int32 :=
  ab_as (ab_sum (s &&& ab_sl (ab_L Y n ic a b (-1) (ab_e Y 0 b)) 0) (ab_E Y a b) 8 0 (ab_e Y a b)) (ab_sum (s &&& ab_sl (ab_L Y n ic a b (-1) (ab_e Y 0 b)) 0) (ab_W Y n a b) 8 0 (ab_V Y n a b)) (ab_rd a b)
theorem ab_sl_bit {j : Nat} (hj : j < 8) : ∀ (l : List Nat) (s : Int32), (∀ i, i ∈ l → i < 8) → (ab_bit (ab_sl l s) j ↔ ab_bit s j ∨ j ∈ l) := by
  intro l
  induction l with
  | nil => intro s _; simp [ab_sl]
  | cons i l ih =>
    intro s hl
    have hi := hl i List.mem_cons_self
    unfold ab_sl
    rw [ih _ (fun k hk => hl k (List.mem_cons_of_mem _ hk)), ab_bit_or (by omega) (by omega), List.mem_cons]
    constructor
    · rintro ((h | h) | h)
      · exact Or.inl h
      · exact Or.inr (Or.inl h.symm)
      · exact Or.inr (Or.inr h)
    · rintro (h | h | h)
      · exact Or.inl (Or.inl h)
      · exact Or.inl (Or.inr h.symm)
      · exact Or.inr h
theorem d_with_ok (hd : pm_Desk w y z fk B t h K Q F Y) (hn : Y 3 0 = nI n) (h20 : n ≤ 20) (hic : Y 7 0 = nI ic) (h8 : ic ≤ 8) (hab : a ≤ b) (hb : b < 4) {s : Int32} (hs0 : ¬ s < 0) (hs1 : s < 1 <<< (Y 7 0 &&& 31)) : ∃ w', pm_call 81 [.ref 0, .int s, .int (nI a), .int (nI b)] w = some (some (.int (ab_with Y n ic a b s)), w') ∧ pm_Desk w' y z fk B t h K Q F Y ∧ ∀ k, k < 40 ∨ 48 < k → w' k = w k := by
  obtain ⟨h1, h2, h3, -, h5, h6, h7, -⟩ := id hd
  obtain ⟨rk, tw, te, pf, ca, cc, hj, hrk, hje⟩ := d_judge (lo := -1) h5 h7 (by omega) hn h20 hic h8 hab hb
  obtain ⟨rk0, rc0, st0, en0, tw0, te0, pf0, ca0, cc0, rd0, bw0, be0, hw⟩ := h5
  have h40 : w 40 = some (.inr (0, [.ref 41, .int rc0, .int st0, .int en0, .ref 45, .ref 46, .ref 47, .ref 48, .int cc0, .int rd0, .long bw0, .long be0])) := by rw [← hw]; rfl
  have hD0 : ∀ (rk : Nat → Int32) (rc st en : Int32) (tw te pf : Nat → Int64) (ca : Nat → Int32) (cc rd : Int32) (bw be : Int64), pm_Dw w rk rc st en tw te pf ca cc rd bw be 0 = some (.inr (5, [.ref 10, .ref 20, .ref 40, .ref 60, .ref y, .ref z, .int fk])) := fun _ _ _ _ _ _ _ _ _ _ _ _ => by rw [dwo (by omega)]; exact h2
  have hYD : ∀ (rk : Nat → Int32) (rc st en : Int32) (tw te pf : Nat → Int64) (ca : Nat → Int32) (cc rd : Int32) (bw be : Int64), pm_Yr (pm_Dw w rk rc st en tw te pf ca cc rd bw be) y Y := fun _ _ _ _ _ _ _ _ _ _ _ _ => dwY h7 (by omega)
  have he2 : ∀ w' : pm_H, pm_Yr w' y Y → pm_call 51 [.ref y, .int (nI a), .int (nI b)] w' = some (some (.long (ab_e Y a b)), w') := fun w' h => q_earningsOf h hab hb
  have hlen : (ab_L Y n ic a b (-1) (ab_e Y 0 b)).length ≤ 8 := by
    have q1 := List.length_filter_le (fun j => decide (¬ ab_e Y 0 b < ab_ff Y j)) (ab_cl (ab_W Y n a b) (ab_E Y a b) (-1) ic).reverse
    have q2 := ab_cl_len (Wf := ab_W Y n a b) (Ef := ab_E Y a b) (lo := -1) ic
    rw [List.length_reverse] at q1
    exact Nat.le_trans q1 (Nat.le_trans q2 h8)
  have hbit : ∀ j, j < 8 → ab_bit (s &&& ab_sl (ab_L Y n ic a b (-1) (ab_e Y 0 b)) 0) j → j < ic := fun j hj8 hbj => by
    have q := ((ab_bit_and (by omega)).mp hbj).2
    rcases (ab_sl_bit hj8 _ _ (fun i hi => by have := ab_rl_mem hi; omega)).mp q with z | z
    · exact absurd z (ab_bit_0 (by omega))
    · exact ab_rl_mem z
  have s1 : ab_sum (s &&& ab_sl (ab_L Y n ic a b (-1) (ab_e Y 0 b)) 0) te 8 0 (ab_e Y a b) = ab_sum (s &&& ab_sl (ab_L Y n ic a b (-1) (ab_e Y 0 b)) 0) (ab_E Y a b) 8 0 (ab_e Y a b) := ab_sum_congr 8 0 _ (fun j _ hj8 => ⟨Iff.rfl, fun hbj => (hje j (hbit j (by omega) hbj)).2⟩)
  have s2 : ab_sum (s &&& ab_sl (ab_L Y n ic a b (-1) (ab_e Y 0 b)) 0) tw 8 0 (ab_V Y n a b) = ab_sum (s &&& ab_sl (ab_L Y n ic a b (-1) (ab_e Y 0 b)) 0) (ab_W Y n a b) 8 0 (ab_V Y n a b) := ab_sum_congr 8 0 _ (fun j _ hj8 => ⟨Iff.rfl, fun hbj => (hje j (hbit j (by omega) hbj)).1⟩)
  have hrs : ab_rs_ rk (ab_L Y n ic a b (-1) (ab_e Y 0 b)).length 0 0 = ab_sl (ab_L Y n ic a b (-1) (ab_e Y 0 b)) 0 := by rw [ab_rs_sl hrk _ 0 0 (by omega), List.drop_zero]
  refine ⟨pm_Dw w rk (nI (ab_L Y n ic a b (-1) (ab_e Y 0 b)).length) (ab_T Y n ic a b (-1) (ab_e Y a b) (ab_e Y 0 b)).1 (ab_T Y n ic a b (-1) (ab_e Y a b) (ab_e Y 0 b)).2.1 tw te pf ca cc (ab_rd a b) (ab_V Y n a b) (ab_e Y a b), ?_, hd.dil, fun k hk => dwo hk⟩
  · simp only [pe81, z81_0, z81_1, z81_2, z81_5, z81_6, pm_kv_some, pm_kw_some, pm_k_some, pm_k_void, pm_vc_some, pm_kl_some, q_requireRun hab hb]
    rw [if_neg hs0]
    simp only [z81_9, z81_10, z81_11, z81_12, z81_15, z81_18, z81_19, pm_kv_some, pm_kw_some, pm_k_some, pm_k_void, pm_vc_some, pm_kl_some, pg5_0, pg5_1, pg5_2, pg5_3, pg5_4, pg5_5, pg5_6, pg4_0, pg4_1, pg4_2, pg4_3, pg4_4, pg4_5, pg4_6, pg4_7, pg4_8, pg4_9, pg4_10, pg4_11, h2, h7.1]
    rw [if_pos hs1]
    simp only [z81_25, z81_26, z81_29, z81_30, z81_33, z81_34, z81_35, z81_36, z81_39, z81_40, z81_43, z81_44, z81_45, z81_48, z81_51, z81_52, z81_53, z81_56, z81_57, z81_58, z81_61, z81_64, pm_kv_some, pm_kw_some, pm_k_some, pm_k_void, pm_vc_some, pm_kl_some, pg5_0, pg5_1, pg5_2, pg5_3, pg5_4, pg5_5, pg5_6, h2, h40, hj, hD0, dw40, (hYD _ _ _ _ _ _ _ _ _ _ _ _).1, he2 _ (hYD _ _ _ _ _ _ _ _ _ _ _ _), q_rankedSet hlen, q_aShareWith, hrs, s1, s2]
    rfl
theorem d_ifSplit_bad (hd : pm_Desk w y z fk B t h K Q F Y) (hn : Y 3 0 = nI n) (h20 : n ≤ 20) (hab : a ≤ b) (hb : b < 4) {v : Int32} (hno : ¬ (¬ v < 2 ∧ ¬ 9 < v ∧ ab_room Y n 2)) : pm_call 85 [.ref 0, .int v, .int (nI a), .int (nI b)] w = some (some (.int (-1000000000)), w) := by
  obtain ⟨h1, h2, h33, -, h5, h6, h7, -⟩ := id hd
  simp only [pe85, z85_0, z85_1, z85_2, z85_5, z85_6, z85_7, pm_kv_some, pm_kw_some, pm_k_some, pm_k_void, pm_vc_some, pm_kl_some, q_requireRun hab hb]
  by_cases e1 : v < 2
  · rw [if_pos e1]; simp only [z85_27, z85_29]
  rw [if_neg e1]
  simp only [z85_10, z85_11, z85_13]
  by_cases e2 : 9 < v
  · rw [if_pos e2]; simp only [z85_27, z85_29]
  rw [if_neg e2]
  simp only [z85_16, z85_17, z85_20, z85_21, z85_24, pm_kv_some, pm_kw_some, pm_k_some, pm_k_void, pm_vc_some, pm_kl_some, pg5_0, pg5_1, pg5_2, pg5_3, pg5_4, pg5_5, pg5_6, h2, h7.1, q_hasRoomForEvent h7 hn h20]
  rw [if_neg (show ¬ (n < 20 ∧ (True → ab_sc (Y 4) n 0 0 < 3)) from fun z => hno ⟨e1, e2, z.1, fun _ => z.2 trivial⟩), if_pos rfl]
  simp only [z85_27, z85_29]
/-- a Year with one event more -/
def ab_ev (Y : Nat → Nat → Int32) (n : Nat) (s d u : Int32) : Nat → Nat → Int32 := ab_set (ab_set (ab_set (ab_set Y 4 (upd (Y 4) n s)) 5 (upd (Y 5) n d)) 6 (upd (Y 6) n u)) 3 (fun _ => nI (n + 1))
theorem d_ifSplit_ok (hd : pm_Desk w y z fk B t h K Q F Y) (hn : Y 3 0 = nI n) (hic : Y 7 0 = nI ic) (h8 : ic ≤ 8) (hab : a ≤ b) (hb : b < 4) (hld : ¬ ab_ld Y n < 0) {v : Int32} (e1 : ¬ v < 2) (e2 : ¬ 9 < v) (hr : ab_room Y n 2) : ∃ w', pm_call 85 [.ref 0, .int v, .int (nI a), .int (nI b)] w = some (some (.int (ab_dil (ab_ev Y n 2 (ab_ld Y n) v) (n + 1) ic a b (-1))), w') ∧ pm_Desk w' y z fk B t h K Q F (ab_set (ab_ev Y n 2 (ab_ld Y n) v) 3 (fun _ => nI n)) ∧ ∀ k, 112 < k → w' k = w k := by
  obtain ⟨h1, h2, h33, -, h5, h6, h7, -⟩ := id hd
  have h20 : n ≤ 20 := by have := hr.1; omega
  have ha := q_addEvent (w := w) (y := y) (f0 := Y 0 0) (p1 := Y 1) (p2 := Y 2) (p4 := Y 4) (p5 := Y 5) (p6 := Y 6) (f7 := Y 7 0) (p8 := Y 8) (p9 := Y 9) (p10 := Y 10) (p11 := Y 11) (s := 2) (d := ab_ld Y n) (u := v) hr.1
  rw [← hn, ywe h7, show pm_Yw w y (Y 0 0) (Y 1) (Y 2) (nI (n + 1)) (upd (Y 4) n 2) (upd (Y 5) n (ab_ld Y n)) (upd (Y 6) n v) (Y 7 0) (Y 8) (Y 9) (Y 10) (Y 11) = pm_YW w y (ab_ev Y n 2 (ab_ld Y n) v) from rfl] at ha
  have hd1 : pm_Desk (pm_YW w y (ab_ev Y n 2 (ab_ld Y n) v)) y z fk B t h K Q F (ab_ev Y n 2 (ab_ld Y n) v) := hd.year
  obtain ⟨w2, hl, hd2, hf⟩ := d_leaving (n := n + 1) (lo := -1) hd1 rfl (by have := hr.1; omega) (show (ab_ev Y n 2 (ab_ld Y n) v) 7 0 = nI ic from hic) h8 hab hb
  have hY2 := hd2.2.2.2.2.2.2.1
  have hx := q_dropEvent (w := w2) (y := y) (n := n + 1) (f0 := ab_ev Y n 2 (ab_ld Y n) v 0 0) (p1 := ab_ev Y n 2 (ab_ld Y n) v 1) (p2 := ab_ev Y n 2 (ab_ld Y n) v 2) (p4 := ab_ev Y n 2 (ab_ld Y n) v 4) (p5 := ab_ev Y n 2 (ab_ld Y n) v 5) (p6 := ab_ev Y n 2 (ab_ld Y n) v 6) (f7 := ab_ev Y n 2 (ab_ld Y n) v 7 0) (p8 := ab_ev Y n 2 (ab_ld Y n) v 8) (p9 := ab_ev Y n 2 (ab_ld Y n) v 9) (p10 := ab_ev Y n 2 (ab_ld Y n) v 10) (p11 := ab_ev Y n 2 (ab_ld Y n) v 11) (by omega) (by have := hr.1; omega)
  rw [Nat.add_sub_cancel, show nI (n + 1) = ab_ev Y n 2 (ab_ld Y n) v 3 0 from rfl, ywe hY2] at hx
  refine ⟨pm_YW w2 y (ab_set (ab_ev Y n 2 (ab_ld Y n) v) 3 (fun _ => nI n)), ?_, hd2.year, fun k hk => ?_⟩
  · simp only [pe85, z85_0, z85_1, z85_2, z85_5, z85_6, z85_7, pm_kv_some, pm_kw_some, pm_k_some, pm_k_void, pm_vc_some, pm_kl_some, q_requireRun hab hb]
    rw [if_neg e1]
    simp only [z85_10, z85_11, z85_13]
    rw [if_neg e2]
    simp only [z85_16, z85_17, z85_20, z85_21, z85_24, pm_kv_some, pm_kw_some, pm_k_some, pm_k_void, pm_vc_some, pm_kl_some, pg5_0, pg5_1, pg5_2, pg5_3, pg5_4, pg5_5, pg5_6, h2, h7.1, q_hasRoomForEvent h7 hn h20]
    rw [if_pos (show (n < 20 ∧ (True → ab_sc (Y 4) n 0 0 < 3)) from ⟨hr.1, fun _ => hr.2 rfl⟩), if_neg (by decide)]
    simp only [z85_30, z85_31, z85_34, z85_35, z85_36, z85_39, z85_42, z85_43, z85_46, z85_47, z85_48, z85_49, z85_50, z85_53, z85_55, z85_56, z85_59, z85_62, z85_64, pm_kv_some, pm_kw_some, pm_k_some, pm_k_void, pm_vc_some, pm_kl_some, pg5_0, pg5_1, pg5_2, pg5_3, pg5_4, pg5_5, pg5_6, h2, h7.1, q_earliestDay h7 hn h20, ab_ld_mx hld, ha, hd1.2.1, hl, hd2.2.1, hY2.1, hx]
    rfl
  · rw [pm_YWo (by omega), hf k (by omega), pm_YWo (by omega)]
end PDK5
