/-! THE DESK, part 6: profit -/
/-- the first of the tries that is one: 100 k, else -2 -/
def ab_pl (c : Nat → Prop) (dec : ∀ k, Decidable (c k)) : Nat → Nat → Int32
  | 0, _ => -2
  | m + 1, k => @ite _ (c k) (dec k) (nI (100 * k)) (ab_pl c dec m (k + 1))
section PDK6
variable {w : pm_H} {y z t h n ic a b : Nat} {fk : Int32} {B K Q F : Nat → Int32} {Y : Nat → Nat → Int32}
/-- earnings with another profit v in quarter q -/
def ab_oth (Y : Nat → Nat → Int32) (a b q : Nat) (v : Int32) : Int64 := if a ≤ q ∧ q ≤ b then ab_e Y a b - (Y 1 q).toInt64 + v.toInt64 else ab_e Y a b - (0 : Int32).toInt64 + (0 : Int32).toInt64
def ab_pc (Y : Nat → Nat → Int32) (n ic a b q i : Nat) (k : Nat) : Prop := ab_bit (ab_T Y n ic a b (-1) (ab_oth Y a b q (nI (100 * k))) (ab_oth Y 0 b q (nI (100 * k)))).1 i
def ab_pcd (Y : Nat → Nat → Int32) (n ic a b q i : Nat) (k : Nat) : Decidable (ab_pc Y n ic a b q i k) := ab_bitd _ i
theorem q_profit_loop {q i : Nat} {x7 : Option Value} {ro ao : Int64} {ir tf : Int32} (hir : ir = if a ≤ q ∧ q ≤ b then 1 else 0) (htf : tf = if 0 ≤ q ∧ q ≤ b then 1 else 0) (hro : ro = ab_e Y a b - (if a ≤ q ∧ q ≤ b then Y 1 q else 0).toInt64) (hao : ao = ab_e Y 0 b - (if 0 ≤ q ∧ q ≤ b then Y 1 q else 0).toInt64)
    (h8 : ic ≤ 8) (hi : i < ic) (h0 : w 0 = some (.inr (5, [.ref 10, .ref 20, .ref 40, .ref 60, .ref y, .ref z, .int fk]))) {ca : Nat → Int32} {tw te pf : Nat → Int64} (hca : ab_rpf ca (ab_cl (ab_W Y n a b) (ab_E Y a b) (-1) ic).reverse) (hj : ∀ j, j < ic → tw j = ab_W Y n a b j ∧ te j = ab_E Y a b j ∧ pf j = ab_ff Y j) :
    ∀ (m k : Nat) (rk : Nat → Int32) (rc st en : Int32) (be : Int64), k + m = 1000 → ∃ (rk' : Nat → Int32) (rc' st' en' : Int32) (be' : Int64), pm_ev 84 110 [some (.ref 0), some (.int (nI q)), some (.int (nI i)), some (.int (nI a)), some (.int (nI b)), some (.int ir), some (.int tf), x7, some (.long ro), none, some (.long ao), none, some (.int (nI (100 * k)))] [] (pm_Dw w rk rc st en tw te pf ca (nI (ab_cl (ab_W Y n a b) (ab_E Y a b) (-1) ic).length) (ab_rd a b) (ab_V Y n a b) be)
      = some (some (.int (ab_pl (ab_pc Y n ic a b q i) (ab_pcd Y n ic a b q i) m k)), pm_Dw w rk' rc' st' en' tw te pf ca (nI (ab_cl (ab_W Y n a b) (ab_E Y a b) (-1) ic).length) (ab_rd a b) (ab_V Y n a b) be') := by
  have hD0 : ∀ (rk : Nat → Int32) (rc st en : Int32) (tw te pf : Nat → Int64) (ca : Nat → Int32) (cc rd : Int32) (bw be : Int64), pm_Dw w rk rc st en tw te pf ca cc rd bw be 0 = some (.inr (5, [.ref 10, .ref 20, .ref 40, .ref 60, .ref y, .ref z, .int fk])) := fun _ _ _ _ _ _ _ _ _ _ _ _ => by rw [dwo (by omega)]; exact h0
  intro m
  induction m with
  | zero =>
    intro k rk rc st en be hk
    have hk2 : k = 1000 := by omega
    subst hk2
    refine ⟨rk, rc, st, en, be, ?_⟩
    simp only [z84_110, z84_112, z84_114]
    rw [if_pos (show (99900 : Int32) < nI (100 * 1000) by decide)]
    simp only [z84_178, z84_180, ab_pl]
  | succ m ih =>
    intro k rk rc st en be hk
    obtain ⟨rk', hs, hrk⟩ := d_settle (w := w) (rk := rk) (rc := rc) (st := st) (en := en) (rd := ab_rd a b) (be := be) (e := ab_oth Y a b q (nI (100 * k))) (re := ab_oth Y 0 b q (nI (100 * k))) (lo := -1) h8 hca hj rfl
    have e1 : (if ir = 0 then ro + (0 : Int32).toInt64 else ro + (nI (100 * k)).toInt64) = ab_oth Y a b q (nI (100 * k)) := by
      unfold ab_oth
      by_cases c : a ≤ q ∧ q ≤ b
      · rw [if_pos c] at hir hro; rw [if_pos c, if_neg (by rw [hir]; decide), hro]
      · rw [if_neg c] at hir hro; rw [if_neg c, if_pos hir, hro]
    have e2 : (if tf = 0 then ao + (0 : Int32).toInt64 else ao + (nI (100 * k)).toInt64) = ab_oth Y 0 b q (nI (100 * k)) := by
      unfold ab_oth
      by_cases c : 0 ≤ q ∧ q ≤ b
      · rw [if_pos c] at htf hao; rw [if_pos c, if_neg (by rw [htf]; decide), hao]
      · rw [if_neg c] at htf hao; rw [if_neg c, if_pos htf, hao]
    have step : pm_ev 84 110 [some (.ref 0), some (.int (nI q)), some (.int (nI i)), some (.int (nI a)), some (.int (nI b)), some (.int ir), some (.int tf), x7, some (.long ro), none, some (.long ao), none, some (.int (nI (100 * k)))] [] (pm_Dw w rk rc st en tw te pf ca (nI (ab_cl (ab_W Y n a b) (ab_E Y a b) (-1) ic).length) (ab_rd a b) (ab_V Y n a b) be)
        = if ((ab_T Y n ic a b (-1) (ab_oth Y a b q (nI (100 * k))) (ab_oth Y 0 b q (nI (100 * k)))).1 >>> (nI i &&& 31)) &&& 1 = 1 then some (some (.int (nI (100 * k))), pm_Dw w rk' (nI (ab_L Y n ic a b (-1) (ab_oth Y 0 b q (nI (100 * k)))).length) (ab_T Y n ic a b (-1) (ab_oth Y a b q (nI (100 * k))) (ab_oth Y 0 b q (nI (100 * k)))).1 (ab_T Y n ic a b (-1) (ab_oth Y a b q (nI (100 * k))) (ab_oth Y 0 b q (nI (100 * k)))).2.1 tw te pf ca (nI (ab_cl (ab_W Y n a b) (ab_E Y a b) (-1) ic).length) (ab_rd a b) (ab_V Y n a b) (ab_oth Y a b q (nI (100 * k))))
          else pm_ev 84 110 [some (.ref 0), some (.int (nI q)), some (.int (nI i)), some (.int (nI a)), some (.int (nI b)), some (.int ir), some (.int tf), x7, some (.long ro), none, some (.long ao), none, some (.int (nI (100 * (k + 1))))] [] (pm_Dw w rk' (nI (ab_L Y n ic a b (-1) (ab_oth Y 0 b q (nI (100 * k)))).length) (ab_T Y n ic a b (-1) (ab_oth Y a b q (nI (100 * k))) (ab_oth Y 0 b q (nI (100 * k)))).1 (ab_T Y n ic a b (-1) (ab_oth Y a b q (nI (100 * k))) (ab_oth Y 0 b q (nI (100 * k)))).2.1 tw te pf ca (nI (ab_cl (ab_W Y n a b) (ab_E Y a b) (-1) ic).length) (ab_rd a b) (ab_V Y n a b) (ab_oth Y a b q (nI (100 * k)))) := by
      have e100 : nI (100 * k) + 100 = nI (100 * (k + 1)) := by
        show nI (100 * k) + nI 100 = _
        rw [nI_add]; congr 1
      conv => lhs; simp only [z84_110, z84_112, z84_114]
      rw [if_neg (show ¬ (99900 : Int32) < nI (100 * k) from nI_nlt (b := 100 * k) (a := 99900) (by omega) (by omega))]
      by_cases c1 : ir = 0
      · by_cases c2 : tf = 0
        · rw [if_pos c1] at e1; rw [if_pos c2] at e2
          simp only [z84_117, z84_118, z84_121, z84_123, z84_125, z84_128, z84_130, z84_133, z84_134, z84_135, z84_136, z84_138, z84_140, z84_143, z84_145, z84_148, z84_149, z84_150, z84_151, z84_154, z84_155, z84_158, z84_161, z84_162, z84_163, z84_164, z84_165, z84_166, z84_169, z84_171, z84_172, z84_175, pm_kv_some, pm_kw_some, pm_k_some, pm_k_void, pm_vc_some, pm_kl_some, pg5_0, pg5_1, pg5_2, pg5_3, pg5_4, pg5_5, pg5_6, pg0_0, pg0_1, pg0_2, pg0_3, pg0_4, pg0_5, pg0_6, pg0_7, pg0_8, pg0_9, pg0_10, pg0_11, hD0, if_pos c1, if_pos c2, e1, e2, dw40, hs, e100]
        · rw [if_pos c1] at e1; rw [if_neg c2] at e2
          simp only [z84_117, z84_118, z84_121, z84_123, z84_125, z84_128, z84_130, z84_133, z84_134, z84_135, z84_136, z84_138, z84_140, z84_143, z84_145, z84_148, z84_149, z84_150, z84_151, z84_154, z84_155, z84_158, z84_161, z84_162, z84_163, z84_164, z84_165, z84_166, z84_169, z84_171, z84_172, z84_175, pm_kv_some, pm_kw_some, pm_k_some, pm_k_void, pm_vc_some, pm_kl_some, pg5_0, pg5_1, pg5_2, pg5_3, pg5_4, pg5_5, pg5_6, pg0_0, pg0_1, pg0_2, pg0_3, pg0_4, pg0_5, pg0_6, pg0_7, pg0_8, pg0_9, pg0_10, pg0_11, hD0, if_pos c1, if_neg c2, e1, e2, dw40, hs, e100]
      · by_cases c2 : tf = 0
        · rw [if_neg c1] at e1; rw [if_pos c2] at e2
          simp only [z84_117, z84_118, z84_121, z84_123, z84_125, z84_128, z84_130, z84_133, z84_134, z84_135, z84_136, z84_138, z84_140, z84_143, z84_145, z84_148, z84_149, z84_150, z84_151, z84_154, z84_155, z84_158, z84_161, z84_162, z84_163, z84_164, z84_165, z84_166, z84_169, z84_171, z84_172, z84_175, pm_kv_some, pm_kw_some, pm_k_some, pm_k_void, pm_vc_some, pm_kl_some, pg5_0, pg5_1, pg5_2, pg5_3, pg5_4, pg5_5, pg5_6, pg0_0, pg0_1, pg0_2, pg0_3, pg0_4, pg0_5, pg0_6, pg0_7, pg0_8, pg0_9, pg0_10, pg0_11, hD0, if_neg c1, if_pos c2, e1, e2, dw40, hs, e100]
        · rw [if_neg c1] at e1; rw [if_neg c2] at e2
          simp only [z84_117, z84_118, z84_121, z84_123, z84_125, z84_128, z84_130, z84_133, z84_134, z84_135, z84_136, z84_138, z84_140, z84_143, z84_145, z84_148, z84_149, z84_150, z84_151, z84_154, z84_155, z84_158, z84_161, z84_162, z84_163, z84_164, z84_165, z84_166, z84_169, z84_171, z84_172, z84_175, pm_kv_some, pm_kw_some, pm_k_some, pm_k_void, pm_vc_some, pm_kl_some, pg5_0, pg5_1, pg5_2, pg5_3, pg5_4, pg5_5, pg5_6, pg0_0, pg0_1, pg0_2, pg0_3, pg0_4, pg0_5, pg0_6, pg0_7, pg0_8, pg0_9, pg0_10, pg0_11, hD0, if_neg c1, if_neg c2, e1, e2, dw40, hs, e100]
    by_cases hc : ((ab_T Y n ic a b (-1) (ab_oth Y a b q (nI (100 * k))) (ab_oth Y 0 b q (nI (100 * k)))).1 >>> (nI i &&& 31)) &&& 1 = 1
    · refine ⟨rk', nI (ab_L Y n ic a b (-1) (ab_oth Y 0 b q (nI (100 * k)))).length, (ab_T Y n ic a b (-1) (ab_oth Y a b q (nI (100 * k))) (ab_oth Y 0 b q (nI (100 * k)))).1, (ab_T Y n ic a b (-1) (ab_oth Y a b q (nI (100 * k))) (ab_oth Y 0 b q (nI (100 * k)))).2.1, ab_oth Y a b q (nI (100 * k)), ?_⟩
      rw [step, if_pos hc]
      conv => rhs; unfold ab_pl
      rw [if_pos (show ab_pc Y n ic a b q i k from hc)]
    · obtain ⟨rk2, rc2, st2, en2, be2, hx⟩ := ih (k + 1) rk' (nI (ab_L Y n ic a b (-1) (ab_oth Y 0 b q (nI (100 * k)))).length) (ab_T Y n ic a b (-1) (ab_oth Y a b q (nI (100 * k))) (ab_oth Y 0 b q (nI (100 * k)))).1 (ab_T Y n ic a b (-1) (ab_oth Y a b q (nI (100 * k))) (ab_oth Y 0 b q (nI (100 * k)))).2.1 (ab_oth Y a b q (nI (100 * k))) (by omega)
      refine ⟨rk2, rc2, st2, en2, be2, ?_⟩
      rw [step, if_neg hc, hx]
      conv => rhs; unfold ab_pl
      rw [if_neg (show ¬ ab_pc Y n ic a b q i k from hc)]
theorem d_profit_bad (hd : pm_Desk w y z fk B t h K Q F Y) (hab : a ≤ b) (hb : b < 4) {q i : Int32} (hno : ¬ (¬ q < 0 ∧ q < 4 ∧ ¬ i < 0 ∧ i < Y 7 0)) : pm_call 83 [.ref 0, .int q, .int i, .int (nI a), .int (nI b)] w = some (some (.int (-1)), w) := by
  obtain ⟨h1, h2, h33, -, h5, h6, h7, -⟩ := id hd
  simp only [pe83, z83_0, z83_1, z83_3, z83_6, z83_7, z83_10, pm_kv_some, pm_kw_some, pm_k_some, pm_k_void, pm_vc_some, pm_kl_some, q_requireRun hab hb, q_isQuarter]
  by_cases e1 : q < 0
  · rw [if_pos e1, if_pos rfl]; simp only [z83_24, z83_25]
  rw [if_neg e1]
  by_cases e2 : q < 4
  · rw [if_pos e2, if_neg (by decide)]
    simp only [z83_13, z83_14, z83_17, z83_18, z83_21, pm_kv_some, pm_kw_some, pm_k_some, pm_k_void, pm_vc_some, pm_kl_some, pg5_0, pg5_1, pg5_2, pg5_3, pg5_4, pg5_5, pg5_6, h2, h7.1, q_hasInstrument h7]
    by_cases e3 : i < 0
    · rw [if_pos e3, if_pos rfl]; simp only [z83_24, z83_25]
    rw [if_neg e3]
    by_cases e4 : i < Y 7 0
    · exact absurd ⟨e1, e2, e3, e4⟩ hno
    · rw [if_neg e4, if_pos rfl]; simp only [z83_24, z83_25]
  · rw [if_neg e2, if_pos rfl]; simp only [z83_24, z83_25]
theorem d_profit_ok (hd : pm_Desk w y z fk B t h K Q F Y) (hn : Y 3 0 = nI n) (h20 : n ≤ 20) (hic : Y 7 0 = nI ic) (h8 : ic ≤ 8) (hab : a ≤ b) (hb : b < 4) {q i : Nat} (hq : q < 4) (hi : i < ic) : ∃ w', pm_call 83 [.ref 0, .int (nI q), .int (nI i), .int (nI a), .int (nI b)] w = some (some (.int (ab_pl (ab_pc Y n ic a b q i) (ab_pcd Y n ic a b q i) 1000 0)), w') ∧ pm_Desk w' y z fk B t h K Q F Y ∧ ∀ k, k < 40 ∨ 48 < k → w' k = w k := by
  obtain ⟨h1, h2, h33, -, h5, h6, h7, -⟩ := id hd
  obtain ⟨rk, rc, st, en, tw, te, pf, ca, be, hg, hca, hj⟩ := d_gather (lo := -1) h5 h7 (by omega) hn h20 hic h8 hab hb
  obtain ⟨rk0, rc0, st0, en0, tw0, te0, pf0, ca0, cc0, rd0, bw0, be0, hw⟩ := h5
  have h40 : w 40 = some (.inr (0, [.ref 41, .int rc0, .int st0, .int en0, .ref 45, .ref 46, .ref 47, .ref 48, .int cc0, .int rd0, .long bw0, .long be0])) := by rw [← hw]; rfl
  have hD0 : ∀ (rk : Nat → Int32) (rc st en : Int32) (tw te pf : Nat → Int64) (ca : Nat → Int32) (cc rd : Int32) (bw be : Int64), pm_Dw w rk rc st en tw te pf ca cc rd bw be 0 = some (.inr (5, [.ref 10, .ref 20, .ref 40, .ref 60, .ref y, .ref z, .int fk])) := fun _ _ _ _ _ _ _ _ _ _ _ _ => by rw [dwo (by omega)]; exact h2
  have hYD : ∀ (rk : Nat → Int32) (rc st en : Int32) (tw te pf : Nat → Int64) (ca : Nat → Int32) (cc rd : Int32) (bw be : Int64), pm_Yr (pm_Dw w rk rc st en tw te pf ca cc rd bw be) y Y := fun _ _ _ _ _ _ _ _ _ _ _ _ => dwY h7 (by omega)
  have he : ∀ w' : pm_H, pm_Yr w' y Y → pm_call 51 [.ref y, .int 0, .int (nI b)] w' = some (some (.long (ab_e Y 0 b)), w') := fun w' h => q_earningsOf (a := 0) h (by omega) hb
  have he2 : ∀ w' : pm_H, pm_Yr w' y Y → pm_call 51 [.ref y, .int (nI a), .int (nI b)] w' = some (some (.long (ab_e Y a b)), w') := fun w' h => q_earningsOf h hab hb
  have hin : vp_in (nI q) 4 := vp_in_nI hq (by omega)
  obtain ⟨rk', rc', st', en', be', hloop⟩ := q_profit_loop (w := w) (y := y) (z := z) (fk := fk) (q := q) (i := i) (x7 := some (.int (Y 1 q))) (Y := Y) (n := n) (a := a) (b := b) rfl rfl rfl rfl h8 hi h2 hca hj 1000 0 rk rc st en be (by omega)
  refine ⟨pm_Dw w rk' rc' st' en' tw te pf ca (nI (ab_cl (ab_W Y n a b) (ab_E Y a b) (-1) ic).length) (ab_rd a b) (ab_V Y n a b) be', ?_, hd.dil, fun k hk => dwo hk⟩
  simp only [pe83, z83_0, z83_1, z83_3, z83_6, z83_7, z83_10, pm_kv_some, pm_kw_some, pm_k_some, pm_k_void, pm_vc_some, pm_kl_some, q_requireRun hab hb, q_isQuarter]
  rw [if_neg (nI_pos (by omega)), if_pos (show nI q < 4 from nI_lt (b := 4) hq (by omega)), if_neg (by decide)]
  simp only [z83_13, z83_14, z83_17, z83_18, z83_21, pm_kv_some, pm_kw_some, pm_k_some, pm_k_void, pm_vc_some, pm_kl_some, pg5_0, pg5_1, pg5_2, pg5_3, pg5_4, pg5_5, pg5_6, h2, h7.1, q_hasInstrument h7, hic]
  rw [if_neg (nI_pos (by omega)), if_pos (nI_lt hi (by omega)), if_neg (by decide)]
  have key : pm_call 84 [.ref 0, .int (nI q), .int (nI i), .int (nI a), .int (nI b)] w = some (some (.int (ab_pl (ab_pc Y n ic a b q i) (ab_pcd Y n ic a b q i) 1000 0)), pm_Dw w rk' rc' st' en' tw te pf ca (nI (ab_cl (ab_W Y n a b) (ab_E Y a b) (-1) ic).length) (ab_rd a b) (ab_V Y n a b) be') := by
    rw [← hloop]
    simp only [pe84, z84_0, z84_1, z84_4, z84_5, z84_8, z84_9, z84_11, z84_12, z84_15, z84_16, z84_17, pm_kv_some, pm_kw_some, pm_k_some, pm_k_void, pm_vc_some, pm_kl_some, pg5_0, pg5_1, pg5_2, pg5_3, pg5_4, pg5_5, pg5_6, h2, h40, hg]
    by_cases c1 : a ≤ q
    · rw [if_neg (nI_nlt c1 (by omega))]
      simp only [z84_20, z84_21, z84_23]
      by_cases c2 : q ≤ b
      · rw [if_neg (nI_nlt c2 (by omega)), if_pos ⟨c1, c2⟩, if_pos ⟨Nat.zero_le _, c2⟩, if_pos ⟨c1, c2⟩, if_pos ⟨Nat.zero_le _, c2⟩]
        simp only [z84_26, z84_27, z84_30, z84_31, z84_33, z84_34, z84_36]
        rw [if_neg (nI_nlt c2 (by omega))]
        simp only [z84_39, z84_40, z84_43, z84_44, z84_46, z84_47, z84_50, z84_53, z84_54, z84_55, z84_57, z84_58, z84_61, z84_62, z84_64, z84_67, z84_69, pm_kv_some, pm_kw_some, pm_k_some, pm_k_void, pm_vc_some, pm_kl_some, pg5_0, pg5_1, pg5_2, pg5_3, pg5_4, pg5_5, pg5_6, pg4_0, pg4_1, pg4_2, pg4_3, pg4_4, pg4_5, pg4_6, pg4_7, pg4_8, pg4_9, pg4_10, pg4_11, hD0, (hYD _ _ _ _ _ _ _ _ _ _ _ _).1, (hYD _ _ _ _ _ _ _ _ _ _ _ _).2.1, pm_ia_in hin, nI_clamp (show q < 2 ^ 31 by omega), he2 _ (hYD _ _ _ _ _ _ _ _ _ _ _ _)]
        rw [if_neg (by decide)]
        simp only [z84_72, z84_74, z84_77, z84_78, z84_79, z84_80, z84_82, z84_83, z84_86, z84_87, z84_89, z84_92, z84_94, pm_kv_some, pm_kw_some, pm_k_some, pm_k_void, pm_vc_some, pm_kl_some, pg5_0, pg5_1, pg5_2, pg5_3, pg5_4, pg5_5, pg5_6, hD0, (hYD _ _ _ _ _ _ _ _ _ _ _ _).1, he _ (hYD _ _ _ _ _ _ _ _ _ _ _ _)]
        rw [if_neg (by decide)]
        simp only [z84_97, z84_99, z84_102, z84_103, z84_104, z84_105, z84_107, z84_108]
        rfl
      · rw [if_pos (nI_lt (show b < q by omega) (by omega)), if_neg (fun z => c2 z.2), if_neg (fun z => c2 z.2), if_neg (fun z => c2 z.2), if_neg (fun z => c2 z.2)]
        simp only [z84_30, z84_31, z84_33, z84_34, z84_36]
        rw [if_pos (nI_lt (show b < q by omega) (by omega))]
        simp only [z84_43, z84_44, z84_46, z84_47, z84_50, z84_53, z84_54, z84_55, z84_57, z84_58, z84_61, z84_62, z84_64, z84_67, z84_69, pm_kv_some, pm_kw_some, pm_k_some, pm_k_void, pm_vc_some, pm_kl_some, pg5_0, pg5_1, pg5_2, pg5_3, pg5_4, pg5_5, pg5_6, pg4_0, pg4_1, pg4_2, pg4_3, pg4_4, pg4_5, pg4_6, pg4_7, pg4_8, pg4_9, pg4_10, pg4_11, hD0, (hYD _ _ _ _ _ _ _ _ _ _ _ _).1, (hYD _ _ _ _ _ _ _ _ _ _ _ _).2.1, pm_ia_in hin, nI_clamp (show q < 2 ^ 31 by omega), he2 _ (hYD _ _ _ _ _ _ _ _ _ _ _ _)]
        rw [if_pos trivial]
        simp only [z84_77, z84_78, z84_79, z84_80, z84_82, z84_83, z84_86, z84_87, z84_89, z84_92, z84_94, pm_kv_some, pm_kw_some, pm_k_some, pm_k_void, pm_vc_some, pm_kl_some, pg5_0, pg5_1, pg5_2, pg5_3, pg5_4, pg5_5, pg5_6, hD0, (hYD _ _ _ _ _ _ _ _ _ _ _ _).1, he _ (hYD _ _ _ _ _ _ _ _ _ _ _ _)]
        rw [if_pos trivial]
        simp only [z84_102, z84_103, z84_104, z84_105, z84_107, z84_108]
        rfl
    · rw [if_pos (nI_lt (show q < a by omega) (by omega)), if_neg (fun z => c1 z.1), if_pos (show 0 ≤ q ∧ q ≤ b by omega), if_neg (fun z => c1 z.1), if_pos (show 0 ≤ q ∧ q ≤ b by omega)]
      simp only [z84_30, z84_31, z84_33, z84_34, z84_36]
      rw [if_neg (nI_nlt (show q ≤ b by omega) (by omega))]
      simp only [z84_39, z84_40, z84_43, z84_44, z84_46, z84_47, z84_50, z84_53, z84_54, z84_55, z84_57, z84_58, z84_61, z84_62, z84_64, z84_67, z84_69, pm_kv_some, pm_kw_some, pm_k_some, pm_k_void, pm_vc_some, pm_kl_some, pg5_0, pg5_1, pg5_2, pg5_3, pg5_4, pg5_5, pg5_6, pg4_0, pg4_1, pg4_2, pg4_3, pg4_4, pg4_5, pg4_6, pg4_7, pg4_8, pg4_9, pg4_10, pg4_11, hD0, (hYD _ _ _ _ _ _ _ _ _ _ _ _).1, (hYD _ _ _ _ _ _ _ _ _ _ _ _).2.1, pm_ia_in hin, nI_clamp (show q < 2 ^ 31 by omega), he2 _ (hYD _ _ _ _ _ _ _ _ _ _ _ _)]
      rw [if_pos trivial]
      simp only [z84_77, z84_78, z84_79, z84_80, z84_82, z84_83, z84_86, z84_87, z84_89, z84_92, z84_94, pm_kv_some, pm_kw_some, pm_k_some, pm_k_void, pm_vc_some, pm_kl_some, pg5_0, pg5_1, pg5_2, pg5_3, pg5_4, pg5_5, pg5_6, hD0, (hYD _ _ _ _ _ _ _ _ _ _ _ _).1, he _ (hYD _ _ _ _ _ _ _ _ _ _ _ _)]
      rw [if_neg (by decide)]
      simp only [z84_97, z84_99, z84_102, z84_103, z84_104, z84_105, z84_107, z84_108]
      rfl
  simp only [z83_26, z83_27, z83_28, z83_29, z83_30, z83_32, z83_35, pm_kv_some, pm_kw_some, pm_k_some, pm_k_void, pm_vc_some, pm_kl_some, h2, key]
end PDK6
