/-! THE DESK, part 4: runs of quarters -/
def ab_W (Y : Nat → Nat → Int32) (n a b : Nat) : Nat → Int64 := fun i => ab_aw Y n i a b
def ab_E (Y : Nat → Nat → Int32) (a b : Nat) : Nat → Int64 := fun i => ab_ae Y i a b
def ab_V (Y : Nat → Nat → Int32) (n a b : Nat) : Int64 := ab_wt Y n ((nI b + 1) * 90) n 0 (nI a * 90) 0
def ab_e (Y : Nat → Nat → Int32) (a b : Nat) : Int64 := ab_er (Y 1) (b + 1 - a) a 0
def ab_L (Y : Nat → Nat → Int32) (n ic a b : Nat) (lo : Int32) (re : Int64) : List Nat := ab_rl (ab_W Y n a b) (ab_E Y a b) (ab_ff Y) lo ic re
def ab_T (Y : Nat → Nat → Int32) (n ic a b : Nat) (lo : Int32) (e re : Int64) : Int32 × Int32 × Int64 × Int64 := ab_tl (ab_W Y n a b) (ab_E Y a b) (ab_L Y n ic a b lo re) e (ab_V Y n a b) 0
def ab_rd (a b : Nat) : Int32 := (nI b - nI a + 1) * 90
section PDK4
variable {w : pm_H} {y z t h n ic a b : Nat} {fk : Int32} {B K Q F : Nat → Int32} {Y : Nat → Nat → Int32} {lo : Int32}
theorem d_gather (hD : pm_Di w) (hY : pm_Yr w y Y) (hy : 48 < y) (hn : Y 3 0 = nI n) (h20 : n ≤ 20) (hic : Y 7 0 = nI ic) (h8 : ic ≤ 8) (hab : a ≤ b) (hb : b < 4) : ∃ (rk : Nat → Int32) (rc st en : Int32) (tw te pf : Nat → Int64) (ca : Nat → Int32) (be : Int64),
    pm_call 1 [.ref 40, .ref y, .int (nI a), .int (nI b), .int lo] w = some (none, pm_Dw w rk rc st en tw te pf ca (nI (ab_cl (ab_W Y n a b) (ab_E Y a b) lo ic).length) (ab_rd a b) (ab_V Y n a b) be) ∧ ab_rpf ca (ab_cl (ab_W Y n a b) (ab_E Y a b) lo ic).reverse ∧ ∀ j, j < ic → tw j = ab_W Y n a b j ∧ te j = ab_E Y a b j ∧ pf j = ab_ff Y j := by
  obtain ⟨rk, rc, st, en, tw, te, pf, ca, cc, rd, bw, be, hw⟩ := hD
  have hg := q_gather (w := w) (rk := rk) (rc := rc) (st := st) (en := en) (tw := tw) (te := te) (pf := pf) (ca := ca) (cc := cc) (rd := rd) (bw := bw) (be := be) (lo := lo) hY hy hn h20 hic h8 hab hb
  rw [hw] at hg
  obtain ⟨r1, r2, r3⟩ := ab_ga_rep (Wf := ab_W Y n a b) (Ef := ab_E Y a b) (Ff := ab_ff Y) (lo := lo) h8 ic 0 tw te pf ca 0 (by omega) rfl trivial (fun j hj => absurd hj (by omega))
  refine ⟨rk, rc, st, en, _, _, _, _, be, ?_, ab_rep_rpf _ r2, r1⟩
  rw [← r3]
  exact hg
theorem d_settle {rk ca : Nat → Int32} {rc st en rd : Int32} {tw te pf : Nat → Int64} {bw be e re : Int64} (h8 : ic ≤ 8) (hca : ab_rpf ca (ab_cl (ab_W Y n a b) (ab_E Y a b) lo ic).reverse) (hj : ∀ j, j < ic → tw j = ab_W Y n a b j ∧ te j = ab_E Y a b j ∧ pf j = ab_ff Y j) (hbw : bw = ab_V Y n a b) : ∃ rk' : Nat → Int32,
    pm_call 4 [.ref 40, .long e, .long re] (pm_Dw w rk rc st en tw te pf ca (nI (ab_cl (ab_W Y n a b) (ab_E Y a b) lo ic).length) rd bw be) = some (none, pm_Dw w rk' (nI (ab_L Y n ic a b lo re).length) (ab_T Y n ic a b lo e re).1 (ab_T Y n ic a b lo e re).2.1 tw te pf ca (nI (ab_cl (ab_W Y n a b) (ab_E Y a b) lo ic).length) rd bw e) ∧ ab_rpf rk' (ab_L Y n ic a b lo re) := by
  have hlen : (ab_cl (ab_W Y n a b) (ab_E Y a b) lo ic).reverse.length = (ab_cl (ab_W Y n a b) (ab_E Y a b) lo ic).length := List.length_reverse
  have hle := ab_cl_len (Wf := ab_W Y n a b) (Ef := ab_E Y a b) (lo := lo) ic
  have hmem : ∀ j, j ∈ (ab_cl (ab_W Y n a b) (ab_E Y a b) lo ic).reverse → j < ic := fun j hjm => (ab_cl_lt _ _ (List.mem_reverse.mp hjm)).1
  have hs := q_settle (w := w) (rk := rk) (rc := rc) (st := st) (en := en) (tw := tw) (te := te) (pf := pf) (ca := ca) (rd := rd) (bw := bw) (be := be) (be0 := e) (re := re) (t := (ab_cl (ab_W Y n a b) (ab_E Y a b) lo ic).length) (by omega) (by rw [← hlen]; exact ab_rep_val hca)
  obtain ⟨f1, f2⟩ := ab_fl_rpf (pf := pf) (Ff := ab_ff Y) (re := re) hca (fun j hjm => (hj j (hmem j hjm)).2.2) (ab_cl (ab_W Y n a b) (ab_E Y a b) lo ic).length 0 rk 0 (by rw [hlen]; omega) (by simp) (fun s hs => by simp at hs)
  have hT : ab_ti (ab_fl pf re ca (ab_cl (ab_W Y n a b) (ab_E Y a b) lo ic).length 0 rk 0).1 tw te (ab_fl pf re ca (ab_cl (ab_W Y n a b) (ab_E Y a b) lo ic).length 0 rk 0).2 0 e bw 0 = ab_T Y n ic a b lo e re := by
    rw [f2, ab_ti_tl f1 (fun j hjm => ⟨(hj j (hmem j (List.mem_filter.mp hjm).1)).1, (hj j (hmem j (List.mem_filter.mp hjm).1)).2.1⟩) _ 0 e bw 0 (by omega), List.drop_zero, hbw]
    rfl
  refine ⟨_, ?_, f1⟩
  rw [hs, hT, f2]
  rfl
theorem d_judge (hD : pm_Di w) (hY : pm_Yr w y Y) (hy : 48 < y) (hn : Y 3 0 = nI n) (h20 : n ≤ 20) (hic : Y 7 0 = nI ic) (h8 : ic ≤ 8) (hab : a ≤ b) (hb : b < 4) : ∃ (rk : Nat → Int32) (tw te pf : Nat → Int64) (ca : Nat → Int32) (cc : Int32),
    pm_call 0 [.ref 40, .ref y, .int (nI a), .int (nI b), .int lo] w = some (none, pm_Dw w rk (nI (ab_L Y n ic a b lo (ab_e Y 0 b)).length) (ab_T Y n ic a b lo (ab_e Y a b) (ab_e Y 0 b)).1 (ab_T Y n ic a b lo (ab_e Y a b) (ab_e Y 0 b)).2.1 tw te pf ca cc (ab_rd a b) (ab_V Y n a b) (ab_e Y a b)) ∧ ab_rpf rk (ab_L Y n ic a b lo (ab_e Y 0 b)) ∧ ∀ j, j < ic → tw j = ab_W Y n a b j ∧ te j = ab_E Y a b j := by
  obtain ⟨rk, rc, st, en, tw, te, pf, ca, be, hg, hca, hj⟩ := d_gather (lo := lo) hD hY hy hn h20 hic h8 hab hb
  obtain ⟨rk', hs, hrk⟩ := d_settle (w := w) (rk := rk) (rc := rc) (st := st) (en := en) (rd := ab_rd a b) (be := be) (e := ab_e Y a b) (re := ab_e Y 0 b) h8 hca hj rfl
  refine ⟨rk', tw, te, pf, ca, nI (ab_cl (ab_W Y n a b) (ab_E Y a b) lo ic).length, ?_, hrk, fun j hjc => ⟨(hj j hjc).1, (hj j hjc).2.1⟩⟩
  have hYD : ∀ (rk : Nat → Int32) (rc st en : Int32) (tw te pf : Nat → Int64) (ca : Nat → Int32) (cc rd : Int32) (bw be : Int64), pm_Yr (pm_Dw w rk rc st en tw te pf ca cc rd bw be) y Y := fun _ _ _ _ _ _ _ _ _ _ _ _ => dwY hY hy
  have he : ∀ w' : pm_H, pm_Yr w' y Y → pm_call 51 [.ref y, .int 0, .int (nI b)] w' = some (some (.long (ab_e Y 0 b)), w') := fun w' h => q_earningsOf (a := 0) h (by omega) hb
  have he2 : ∀ w' : pm_H, pm_Yr w' y Y → pm_call 51 [.ref y, .int (nI a), .int (nI b)] w' = some (some (.long (ab_e Y a b)), w') := fun w' h => q_earningsOf h hab hb
  obtain ⟨rk0, rc0, st0, en0, tw0, te0, pf0, ca0, cc0, rd0, bw0, be0, hw⟩ := hD
  have h40 : w 40 = some (.inr (0, [.ref 41, .int rc0, .int st0, .int en0, .ref 45, .ref 46, .ref 47, .ref 48, .int cc0, .int rd0, .long bw0, .long be0])) := by rw [← hw]; rfl
  simp only [pe0, z0_0, z0_1, z0_2, z0_3, z0_4, z0_6, z0_9, z0_10, z0_11, z0_12, z0_13, z0_16, z0_17, z0_18, z0_19, z0_22, z0_25, pm_kv_some, pm_kw_some, pm_k_some, pm_k_void, pm_vc_some, pm_kl_some, h40, hg, dw40, (hYD _ _ _ _ _ _ _ _ _ _ _ _).1, he2 _ (hYD _ _ _ _ _ _ _ _ _ _ _ _), he _ (hYD _ _ _ _ _ _ _ _ _ _ _ _), hs]
/-- a share's earnings: rounded down -/
def ab_dil (Y : Nat → Nat → Int32) (n ic a b : Nat) (lo : Int32) : Int32 := ab_as (ab_T Y n ic a b lo (ab_e Y a b) (ab_e Y 0 b)).2.2.1 (ab_T Y n ic a b lo (ab_e Y a b) (ab_e Y 0 b)).2.2.2 (ab_rd a b)
theorem ab_T_sum {e re : Int64} (h8 : ic ≤ 8) {tw te : Nat → Int64} (hj : ∀ j, j < ic → tw j = ab_W Y n a b j ∧ te j = ab_E Y a b j) : ab_sum (ab_T Y n ic a b lo e re).1 te 8 0 e = (ab_T Y n ic a b lo e re).2.2.1 ∧ ab_sum (ab_T Y n ic a b lo e re).1 tw 8 0 (ab_V Y n a b) = (ab_T Y n ic a b lo e re).2.2.2 := by
  have h0 : ∀ (f : Nat → Int64) (c : Int64) (m k : Nat), k + m = 8 → ab_sum 0 f m k c = c := by
    intro f c m
    induction m generalizing c with
    | zero => intro k _; rfl
    | succ m ih => intro k hk; unfold ab_sum; rw [if_neg (ab_bit_0 (by omega))]; exact ih c _ (by omega)
  obtain ⟨q1, q2, q3⟩ := ab_tl_sum (Wf := ab_W Y n a b) (Ef := ab_E Y a b) (e0 := e) (v0 := ab_V Y n a b) (ab_L Y n ic a b lo re) e (ab_V Y n a b) 0 ab_rl_nodup (fun i hi => ⟨by have := ab_rl_mem hi; omega, ab_bit_0 (by have := ab_rl_mem hi; omega)⟩) (h0 _ _ 8 0 (by omega)) (h0 _ _ 8 0 (by omega))
  have hb : ∀ j, j < 8 → ab_bit (ab_T Y n ic a b lo e re).1 j → j < ic := fun j hj8 hb => by
    rcases q3 j hj8 hb with z | z
    · exact absurd z (ab_bit_0 (by omega))
    · exact ab_rl_mem z
  constructor
  · rw [← show _ = (ab_T Y n ic a b lo e re).2.2.1 from q1]
    exact ab_sum_congr 8 0 _ (fun j _ hj8 => ⟨Iff.rfl, fun hbj => (hj j (hb j (by omega) hbj)).2⟩)
  · rw [← show _ = (ab_T Y n ic a b lo e re).2.2.2 from q2]
    exact ab_sum_congr 8 0 _ (fun j _ hj8 => ⟨Iff.rfl, fun hbj => (hj j (hb j (by omega) hbj)).1⟩)
theorem d_leaving (hd : pm_Desk w y z fk B t h K Q F Y) (hn : Y 3 0 = nI n) (h20 : n ≤ 20) (hic : Y 7 0 = nI ic) (h8 : ic ≤ 8) (hab : a ≤ b) (hb : b < 4) : ∃ w', pm_call 80 [.ref 0, .int lo, .int (nI a), .int (nI b)] w = some (some (.int (ab_dil Y n ic a b lo)), w') ∧ pm_Desk w' y z fk B t h K Q F Y ∧ ∀ k, k < 40 ∨ 48 < k → w' k = w k := by
  obtain ⟨h1, h2, h3, -, h5, h6, h7, -⟩ := id hd
  obtain ⟨rk, tw, te, pf, ca, cc, hj, hrk, hje⟩ := d_judge (lo := lo) h5 h7 (by omega) hn h20 hic h8 hab hb
  obtain ⟨rk0, rc0, st0, en0, tw0, te0, pf0, ca0, cc0, rd0, bw0, be0, hw⟩ := h5
  have h40 : w 40 = some (.inr (0, [.ref 41, .int rc0, .int st0, .int en0, .ref 45, .ref 46, .ref 47, .ref 48, .int cc0, .int rd0, .long bw0, .long be0])) := by rw [← hw]; rfl
  have hD0 : ∀ (rk : Nat → Int32) (rc st en : Int32) (tw te pf : Nat → Int64) (ca : Nat → Int32) (cc rd : Int32) (bw be : Int64), pm_Dw w rk rc st en tw te pf ca cc rd bw be 0 = some (.inr (5, [.ref 10, .ref 20, .ref 40, .ref 60, .ref y, .ref z, .int fk])) := fun _ _ _ _ _ _ _ _ _ _ _ _ => by rw [dwo (by omega)]; exact h2
  obtain ⟨s1, s2⟩ := ab_T_sum (lo := lo) (e := ab_e Y a b) (re := ab_e Y 0 b) h8 hje
  refine ⟨pm_Dw w rk (nI (ab_L Y n ic a b lo (ab_e Y 0 b)).length) (ab_T Y n ic a b lo (ab_e Y a b) (ab_e Y 0 b)).1 (ab_T Y n ic a b lo (ab_e Y a b) (ab_e Y 0 b)).2.1 tw te pf ca cc (ab_rd a b) (ab_V Y n a b) (ab_e Y a b), ?_, hd.dil, fun k hk => dwo hk⟩
  · simp only [pe80, z80_0, z80_1, z80_4, z80_5, z80_8, z80_9, z80_10, z80_11, z80_14, z80_15, z80_18, z80_21, pm_kv_some, pm_kw_some, pm_k_some, pm_k_void, pm_vc_some, pm_kl_some, pg5_0, pg5_1, pg5_2, pg5_3, pg5_4, pg5_5, pg5_6, h2, h40, hj, hD0, dw40, q_diluted, s1, s2]
    rfl
theorem d_without (hd : pm_Desk w y z fk B t h K Q F Y) (hn : Y 3 0 = nI n) (h20 : n ≤ 20) (hic : Y 7 0 = nI ic) (h8 : ic ≤ 8) (hab : a ≤ b) (hb : b < 4) {i : Int32} : ∃ w', pm_call 79 [.ref 0, .int i, .int (nI a), .int (nI b)] w = some (some (.int (if i < 0 then -1000000000 else if i < nI ic then ab_dil Y n ic a b i else -1000000000)), w') ∧ pm_Desk w' y z fk B t h K Q F Y ∧ ∀ k, k < 40 ∨ 48 < k → w' k = w k := by
  obtain ⟨h1, h2, h3, -, h5, h6, h7, -⟩ := id hd
  obtain ⟨w', hl, hd', hf⟩ := d_leaving (lo := i) hd hn h20 hic h8 hab hb
  by_cases e1 : i < 0
  · refine ⟨w, ?_, hd, fun _ _ => rfl⟩
    simp only [pe79, z79_0, z79_1, z79_2, z79_5, z79_6, z79_9, z79_10, z79_13, pm_kv_some, pm_kw_some, pm_k_some, pm_k_void, pm_vc_some, pm_kl_some, pg5_0, pg5_1, pg5_2, pg5_3, pg5_4, pg5_5, pg5_6, h2, h7.1, q_requireRun hab hb, q_hasInstrument h7, hic]
    rw [if_pos e1, if_pos rfl, if_pos e1]
    simp only [z79_16, z79_18]
  · by_cases e2 : i < nI ic
    · refine ⟨w', ?_, hd', hf⟩
      simp only [pe79, z79_0, z79_1, z79_2, z79_5, z79_6, z79_9, z79_10, z79_13, pm_kv_some, pm_kw_some, pm_k_some, pm_k_void, pm_vc_some, pm_kl_some, pg5_0, pg5_1, pg5_2, pg5_3, pg5_4, pg5_5, pg5_6, h2, h7.1, q_requireRun hab hb, q_hasInstrument h7, hic]
      rw [if_neg e1, if_pos e2, if_neg (by decide), if_neg e1, if_pos e2]
      simp only [z79_19, z79_20, z79_21, z79_22, z79_23, z79_26, pm_kv_some, pm_kw_some, pm_k_some, pm_k_void, pm_vc_some, pm_kl_some, h2, hl]
    · refine ⟨w, ?_, hd, fun _ _ => rfl⟩
      simp only [pe79, z79_0, z79_1, z79_2, z79_5, z79_6, z79_9, z79_10, z79_13, pm_kv_some, pm_kw_some, pm_k_some, pm_k_void, pm_vc_some, pm_kl_some, pg5_0, pg5_1, pg5_2, pg5_3, pg5_4, pg5_5, pg5_6, h2, h7.1, q_requireRun hab hb, q_hasInstrument h7, hic]
      rw [if_neg e1, if_neg e2, if_pos rfl, if_neg e1, if_neg e2]
      simp only [z79_16, z79_18]
/-- what a run tells -/
def ab_run (Y : Nat → Nat → Int32) (n ic a b : Nat) (v : Int32) : Int32 :=
  if v = 0 then (ab_e Y a b).toInt32 else if v = 1 then ab_as (ab_e Y a b) (ab_V Y n a b) (ab_rd a b) else if v = 2 then ab_dil Y n ic a b (-1)
  else if v = 3 then (ab_T Y n ic a b (-1) (ab_e Y a b) (ab_e Y 0 b)).1 else if v = 4 then nI (ab_L Y n ic a b (-1) (ab_e Y 0 b)).length else (ab_T Y n ic a b (-1) (ab_e Y a b) (ab_e Y 0 b)).2.1
theorem ab_sum_0 (f : Nat → Int64) : ∀ (m k : Nat) (c : Int64), k + m = 8 → ab_sum 0 f m k c = c := by
  intro m
  induction m with
  | zero => intro k c _; rfl
  | succ m ih => intro k c hk; unfold ab_sum; rw [if_neg (ab_bit_0 (by omega))]; exact ih _ _ (by omega)
theorem d_run (hd : pm_Desk w y z fk B t h K Q F Y) (hn : Y 3 0 = nI n) (h20 : n ≤ 20) (hic : Y 7 0 = nI ic) (h8 : ic ≤ 8) (hab : a ≤ b) (hb : b < 4) {v : Int32} (hv0 : ¬ v < 0) (hv5 : ¬ 5 < v) : ∃ w', pm_call 77 [.ref 0, .int (nI a), .int (nI b), .int v] w = some (some (.int (ab_run Y n ic a b v)), w') ∧ pm_Desk w' y z fk B t h K Q F Y ∧ ∀ k, k < 40 ∨ 48 < k → w' k = w k := by
  obtain ⟨h1, h2, h3, -, h5, h6, h7, -⟩ := id hd
  obtain ⟨rk, tw, te, pf, ca, cc, hj, hrk, hje⟩ := d_judge (lo := -1) h5 h7 (by omega) hn h20 hic h8 hab hb
  obtain ⟨rk0, rc0, st0, en0, tw0, te0, pf0, ca0, cc0, rd0, bw0, be0, hw⟩ := h5
  have h40 : w 40 = some (.inr (0, [.ref 41, .int rc0, .int st0, .int en0, .ref 45, .ref 46, .ref 47, .ref 48, .int cc0, .int rd0, .long bw0, .long be0])) := by rw [← hw]; rfl
  have hD0 : ∀ (rk : Nat → Int32) (rc st en : Int32) (tw te pf : Nat → Int64) (ca : Nat → Int32) (cc rd : Int32) (bw be : Int64), pm_Dw w rk rc st en tw te pf ca cc rd bw be 0 = some (.inr (5, [.ref 10, .ref 20, .ref 40, .ref 60, .ref y, .ref z, .int fk])) := fun _ _ _ _ _ _ _ _ _ _ _ _ => by rw [dwo (by omega)]; exact h2
  have hYD : ∀ (rk : Nat → Int32) (rc st en : Int32) (tw te pf : Nat → Int64) (ca : Nat → Int32) (cc rd : Int32) (bw be : Int64), pm_Yr (pm_Dw w rk rc st en tw te pf ca cc rd bw be) y Y := fun _ _ _ _ _ _ _ _ _ _ _ _ => dwY h7 (by omega)
  have he2 : ∀ w' : pm_H, pm_Yr w' y Y → pm_call 51 [.ref y, .int (nI a), .int (nI b)] w' = some (some (.long (ab_e Y a b)), w') := fun w' h => q_earningsOf h hab hb
  obtain ⟨s1, s2⟩ := ab_T_sum (lo := -1) (e := ab_e Y a b) (re := ab_e Y 0 b) h8 hje
  refine ⟨pm_Dw w rk (nI (ab_L Y n ic a b (-1) (ab_e Y 0 b)).length) (ab_T Y n ic a b (-1) (ab_e Y a b) (ab_e Y 0 b)).1 (ab_T Y n ic a b (-1) (ab_e Y a b) (ab_e Y 0 b)).2.1 tw te pf ca cc (ab_rd a b) (ab_V Y n a b) (ab_e Y a b), ?_, hd.dil, fun k hk => dwo hk⟩
  · simp only [pe77, z77_0, z77_1, z77_2, z77_5, z77_6, pm_kv_some, pm_kw_some, pm_k_some, pm_k_void, pm_vc_some, pm_kl_some, q_requireRun hab hb]
    rw [if_neg hv0]
    simp only [z77_9, z77_10, z77_11]
    rw [if_neg hv5]
    simp only [z77_24, z77_25, z77_28, z77_29, z77_32, z77_33, z77_34, z77_35, z77_38, z77_39, z77_72, z77_73, z77_76, z77_77, z77_78, z77_81, z77_82, z77_83, z77_84, z77_87, z77_88, z77_89, z77_92, z77_93, z77_94, z77_97, z77_100, z77_101, z77_102, z77_105, z77_108, z77_109, z77_110, z77_113, z77_116, z77_117, z77_118, z77_121, z77_124, z77_125, z77_126, z77_129, z77_132, pm_kv_some, pm_kw_some, pm_k_some, pm_k_void, pm_vc_some, pm_kl_some, pg5_0, pg5_1, pg5_2, pg5_3, pg5_4, pg5_5, pg5_6, pg0_0, pg0_1, pg0_2, pg0_3, pg0_4, pg0_5, pg0_6, pg0_7, pg0_8, pg0_9, pg0_10, pg0_11, h2, h40, hj, hD0, dw40, (hYD _ _ _ _ _ _ _ _ _ _ _ _).1, he2 _ (hYD _ _ _ _ _ _ _ _ _ _ _ _), q_aShareWith, q_diluted, s1, s2, ab_run, ab_sum_0 _ 8 0 _ (show 0 + 8 = 8 by omega), ab_dil]
    by_cases e : v = 0
    · rw [if_pos e, if_pos e]
    rw [if_neg e, if_neg e]
    by_cases e : v = 1
    · rw [if_pos e, if_pos e]
    rw [if_neg e, if_neg e]
    by_cases e : v = 2
    · rw [if_pos e, if_pos e]
    rw [if_neg e, if_neg e]
    by_cases e : v = 3
    · rw [if_pos e, if_pos e]
    rw [if_neg e, if_neg e]
    by_cases e : v = 4
    · rw [if_pos e, if_pos e]
    rw [if_neg e, if_neg e]
theorem d_rank (hd : pm_Desk w y z fk B t h K Q F Y) (hn : Y 3 0 = nI n) (h20 : n ≤ 20) (hic : Y 7 0 = nI ic) (h8 : ic ≤ 8) (hab : a ≤ b) (hb : b < 4) {v : Int32} : ∃ w', pm_call 78 [.ref 0, .int (nI a), .int (nI b), .int v] w = some (some (.int (if v < 0 then -1 else if v < nI (ab_L Y n ic a b (-1) (ab_e Y 0 b)).length then nI ((ab_L Y n ic a b (-1) (ab_e Y 0 b)).getD v.toNatClampNeg 0) else -1)), w') ∧ pm_Desk w' y z fk B t h K Q F Y ∧ ∀ k, k < 40 ∨ 48 < k → w' k = w k := by
  obtain ⟨h1, h2, h3, -, h5, h6, h7, -⟩ := id hd
  obtain ⟨rk, tw, te, pf, ca, cc, hj, hrk, hje⟩ := d_judge (lo := -1) h5 h7 (by omega) hn h20 hic h8 hab hb
  obtain ⟨rk0, rc0, st0, en0, tw0, te0, pf0, ca0, cc0, rd0, bw0, be0, hw⟩ := h5
  have h40 : w 40 = some (.inr (0, [.ref 41, .int rc0, .int st0, .int en0, .ref 45, .ref 46, .ref 47, .ref 48, .int cc0, .int rd0, .long bw0, .long be0])) := by rw [← hw]; rfl
  have hD0 : ∀ (rk : Nat → Int32) (rc st en : Int32) (tw te pf : Nat → Int64) (ca : Nat → Int32) (cc rd : Int32) (bw be : Int64), pm_Dw w rk rc st en tw te pf ca cc rd bw be 0 = some (.inr (5, [.ref 10, .ref 20, .ref 40, .ref 60, .ref y, .ref z, .int fk])) := fun _ _ _ _ _ _ _ _ _ _ _ _ => by rw [dwo (by omega)]; exact h2
  have hlen : (ab_L Y n ic a b (-1) (ab_e Y 0 b)).length ≤ 8 := by
    have q1 := List.length_filter_le (fun j => decide (¬ ab_e Y 0 b < ab_ff Y j)) (ab_cl (ab_W Y n a b) (ab_E Y a b) (-1) ic).reverse
    have q2 := ab_cl_len (Wf := ab_W Y n a b) (Ef := ab_E Y a b) (lo := -1) ic
    rw [List.length_reverse] at q1
    exact Nat.le_trans q1 (Nat.le_trans q2 h8)
  refine ⟨pm_Dw w rk (nI (ab_L Y n ic a b (-1) (ab_e Y 0 b)).length) (ab_T Y n ic a b (-1) (ab_e Y a b) (ab_e Y 0 b)).1 (ab_T Y n ic a b (-1) (ab_e Y a b) (ab_e Y 0 b)).2.1 tw te pf ca cc (ab_rd a b) (ab_V Y n a b) (ab_e Y a b), ?_, hd.dil, fun k hk => dwo hk⟩
  · simp only [pe78, z78_0, z78_1, z78_2, z78_5, z78_6, z78_9, z78_10, z78_13, z78_14, z78_15, z78_16, z78_19, z78_20, pm_kv_some, pm_kw_some, pm_k_some, pm_k_void, pm_vc_some, pm_kl_some, pg5_0, pg5_1, pg5_2, pg5_3, pg5_4, pg5_5, pg5_6, h2, h40, q_requireRun hab hb, hj]
    by_cases e1 : v < 0
    · rw [if_pos e1, if_pos e1]; simp only [z78_34, z78_35]
    rw [if_neg e1, if_neg e1]
    simp only [z78_23, z78_24, z78_25, z78_28, z78_31, pm_kv_some, pm_kw_some, pm_k_some, pm_k_void, pm_vc_some, pm_kl_some, pg5_0, pg5_1, pg5_2, pg5_3, pg5_4, pg5_5, pg5_6, pg0_0, pg0_1, pg0_2, pg0_3, pg0_4, pg0_5, pg0_6, pg0_7, pg0_8, pg0_9, pg0_10, pg0_11, hD0, dw40]
    by_cases e2 : v < nI (ab_L Y n ic a b (-1) (ab_e Y 0 b)).length
    · rw [if_pos e2, if_pos e2]
      obtain ⟨j, hj2, rfl⟩ := pm_ixN e1 e2 (by omega)
      simp only [z78_36, z78_37, z78_40, z78_43, z78_44, z78_45, pm_kv_some, pm_kw_some, pm_k_some, pm_k_void, pm_vc_some, pm_kl_some, pg5_0, pg5_1, pg5_2, pg5_3, pg5_4, pg5_5, pg5_6, pg0_0, pg0_1, pg0_2, pg0_3, pg0_4, pg0_5, pg0_6, pg0_7, pg0_8, pg0_9, pg0_10, pg0_11, hD0, dw40, dw41, pm_ia_in (vp_in_nI (show j < 8 by omega) (by omega)), nI_clamp (show j < 2 ^ 31 by omega), (hrk j hj2).1]
    · rw [if_neg e2, if_neg e2]; simp only [z78_34, z78_35]
end PDK4
