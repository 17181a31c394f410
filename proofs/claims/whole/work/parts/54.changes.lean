/-! BOTH SIDES: what changes the desk -/
section PCH
variable {w w1 : pm_H} {y z t h n N : Nat} {fk : Int32} {B K Q F : Nat → Int32} {Y Z : Nat → Nat → Int32} {TT R SN : Nat → Int32} {c : Nat → Nat}
theorem ab_le_ev2 (le : ab_le Y Z n N) {s d u : Int32} : ab_le (ab_ev Y n s d u) (ab_ev Z n s d u) (n + 1) N := by
  intro i q hl
  unfold ab_lv at hl
  unfold ab_ev ab_set
  by_cases i3 : i = 3
  · rw [if_pos i3, if_pos i3]
  · rw [if_neg i3, if_neg i3]
    by_cases i6 : i = 6
    · rw [if_pos i6, if_pos i6]
      by_cases e : q = n
      · subst e; rw [pk_us, pk_us]
      · rw [pk_un e, pk_un e]; exact le.h6 q (by omega)
    · rw [if_neg i6, if_neg i6]
      by_cases i5 : i = 5
      · rw [if_pos i5, if_pos i5]
        by_cases e : q = n
        · subst e; rw [pk_us, pk_us]
        · rw [pk_un e, pk_un e]; exact le.h5 q (by omega)
      · rw [if_neg i5, if_neg i5]
        by_cases i4 : i = 4
        · rw [if_pos i4, if_pos i4]
          by_cases e : q = n
          · subst e; rw [pk_us, pk_us]
          · rw [pk_un e, pk_un e]; exact le.h4 q (by omega)
        · rw [if_neg i4, if_neg i4]
          exact le i q (by unfold ab_lv; omega)
theorem ab_le_set1 (le : ab_le Y Z n N) {q : Nat} {v : Int32} : ab_le (ab_set Y 1 (upd (Y 1) q v)) (ab_set Z 1 (upd (Z 1) q v)) n N := by
  intro i j hl
  have hl0 := hl
  unfold ab_lv at hl
  unfold ab_set
  by_cases i1 : i = 1
  · rw [if_pos i1, if_pos i1]
    by_cases e : j = q
    · subst e; rw [pk_us, pk_us]
    · rw [pk_un e, pk_un e]; exact le.h1 j (by omega)
  · rw [if_neg i1, if_neg i1]; exact le i j hl0
theorem ab_le_set2 (le : ab_le Y Z n N) {q : Nat} {v : Int32} : ab_le (ab_set Y 2 (upd (Y 2) q v)) (ab_set Z 2 (upd (Z 2) q v)) n N := by
  intro i j hl
  have hl0 := hl
  unfold ab_lv at hl
  unfold ab_set
  by_cases i1 : i = 2
  · rw [if_pos i1, if_pos i1]
    by_cases e : j = q
    · subst e; rw [pk_us, pk_us]
    · rw [pk_un e, pk_un e]; exact le.h2 j (by omega)
  · rw [if_neg i1, if_neg i1]; exact le i j hl0
theorem ab_tok_le (le : ab_le Y Z n N) {s d u : Int32} : ab_tok Y n s d u ↔ ab_tok Z n s d u := by
  unfold ab_tok
  rw [le.ld, le.mo]
theorem ab_room_le (le : ab_le Y Z n N) {s : Int32} : ab_room Y n s ↔ ab_room Z n s := by
  unfold ab_room
  rw [le.sc]
theorem I_tells (I : IV w) {s d u : Int32} : pm_pair w 66 158 [.ref 0, .int s, .int d, .int u] [.ref 200, .int s, .int d, .int u] := by
  obtain ⟨y, z, fk, B, t, h, K, Q, F, Y, n, N, TT, R, SN, c, hd, hM, ht, hB, hT, hh, hw, le, hs, o, ho⟩ := I
  have hwR := hw.congr le
  have hld := ab_ld_nn hw
  by_cases htok : ab_tok Y n s d u
  · by_cases hr : ab_room Y n s
    · have k1 := d_tells_ok hd hw.hn hw.n20 hld hh htok hr
      have e : pm_Yw w y (Y 0 0) (Y 1) (Y 2) (nI (n + 1)) (upd (Y 4) n s) (upd (Y 5) n d) (upd (Y 6) n u) (Y 7 0) (Y 8) (Y 9) (Y 10) (Y 11) = pm_YW w y (ab_ev Y n s d u) := rfl
      rw [e] at k1
      have fr : ∀ j, 112 < j → pm_Hw (pm_YW w y (ab_ev Y n s d u)) (nI (ab_hn h)) (ab_hk h K 0) (ab_hk h Q 0) (ab_hk h F 0) j = w j := fun j hj => by
        rw [hwo (by omega), pm_YWo (by have := hd.1; omega)]
      have hM1 := hM.of fr
      have h200 := hM1.c200
      obtain ⟨s0, s3, s4, s5, s6, s7, s9, s18, s19, s20, l10, l21, l22, RD, wt, er, rk, e1⟩ := hM1
      refine ⟨_, _, _, k1, h200, (congrArg (pm_call _ _) e1).symm.trans (m_tells_ok hwR hh ((ab_tok_le le).mp htok) ((ab_room_le le).mp hr)), Iv_fin (h := ab_hn h) (hd.year (Y' := ab_ev Y n s d u)).hist ht hB hT ?_ (hw.event htok hr) ((ab_le_ev2 le).trans (Yv_ev hr.1 hw.N8).symm) ?_ (by rw [fr _ (by omega)]; exact ho)⟩
      · unfold ab_hn; split <;> omega
      · refine ab_hs.push hh hs hw le (fun _ => by omega) (fun e => absurd e (by decide)) (fun e => absurd rfl e) (by rw [if_pos rfl]; omega) (by rw [if_neg (by decide)]) ?_
        intro i j hl
        have hl0 := hl
        unfold ab_lv at hl
        have hc : i = 0 ∨ i = 1 ∨ i = 2 ∨ i = 3 ∨ i = 4 ∨ i = 5 ∨ i = 6 ∨ i = 7 ∨ i = 8 ∨ i = 9 ∨ i = 10 ∨ i = 11 := by omega
        rcases hc with e | e | e | e | e | e | e | e | e | e | e | e <;> subst e
        · have : j = 0 := by omega
          subst this; rfl
        · rfl
        · rfl
        · have : j = 0 := by omega
          subst this; exact hw.hn
        · exact (pk_un (by omega)).symm
        · exact (pk_un (by omega)).symm
        · exact (pk_un (by omega)).symm
        · have : j = 0 := by omega
          subst this; exact hw.hN
        · rfl
        · rfl
        · rfl
        · rfl
    · have h200 := hM.c200
      obtain ⟨s0, s3, s4, s5, s6, s7, s9, s18, s19, s20, l10, l21, l22, RD, wt, er, rk, e1⟩ := hM
      exact ⟨_, _, _, d_tells_full hd hw.hn hw.n20 hld htok hr, h200, (congrArg (pm_call _ _) e1).symm.trans (m_tells_full hwR ((ab_tok_le le).mp htok) (fun z => hr ((ab_room_le le).mpr z))), Iv_fin hd ht hB hT hh hw le hs ho⟩
  · have h200 := hM.c200
    obtain ⟨s0, s3, s4, s5, s6, s7, s9, s18, s19, s20, l10, l21, l22, RD, wt, er, rk, e1⟩ := hM
    exact ⟨_, _, _, d_tells_bad hd hw.hn hw.n20 hld htok, h200, (congrArg (pm_call _ _) e1).symm.trans (m_tells_bad hwR (fun z => htok ((ab_tok_le le).mpr z))), Iv_fin hd ht hB hT hh hw le hs ho⟩
theorem i3_rng {v a b : Int32} (h1 : ¬ v < a) (h2 : ¬ b < v) : ab_I v a.toInt b.toInt := by
  have x := mt i3_lt.mpr h1
  have y := mt i3_lt.mpr h2
  exact ⟨by omega, by omega⟩
theorem I_grants (I : IV w) {s d u k : Int32} : pm_pair w 67 160 [.ref 0, .int s, .int d, .int u, .int k] [.ref 200, .int s, .int d, .int u, .int k] := by
  obtain ⟨y, z, fk, B, t, h, K, Q, F, Y, n, N, TT, R, SN, c, hd, hM, ht, hB, hT, hh, hw, le, hs, o, ho⟩ := I
  have hN := hw.hN
  have hNR : R 70 = nI N := (hw.congr le).hN
  by_cases hok : ab_gok s d u k
  · by_cases h8 : N < 8
    · have k1 := d_grants_ok hd hN h8 hh hok
      have e : pm_Yw w y (Y 0 0) (Y 1) (Y 2) (Y 3 0) (Y 4) (Y 5) (Y 6) (nI (N + 1)) (upd (Y 8) N s) (upd (Y 9) N d) (upd (Y 10) N u) (upd (Y 11) N k) = pm_YW w y (ab_in Y N s d u k) := rfl
      rw [e] at k1
      have fr : ∀ j, 112 < j → pm_Hw (pm_YW w y (ab_in Y N s d u k)) (nI (ab_hn h)) (ab_hk h K 1) (ab_hk h Q 0) (ab_hk h F 0) j = w j := fun j hj => by
        rw [hwo (by omega), pm_YWo (by have := hd.1; omega)]
      have hM1 := hM.of fr
      have h200 := hM1.c200
      obtain ⟨s0, s3, s4, s5, s6, s7, s9, s18, s19, s20, l10, l21, l22, RD, wt, er, rk, e1⟩ := hM1
      obtain ⟨g1, g2, g3, g4, g5, g6, g7, g8⟩ := id hok
      have hk1 : ¬ k < 0 := by
        intro z
        by_cases es : s = 0
        · rw [if_pos es] at g7
          exact g7 (i3_lt.mpr (by have := i3_lt.mp z; have e0 : (0 : Int32).toInt = 0 := rfl; have e1 : (1 : Int32).toInt = 1 := rfl; omega))
        · rw [if_neg es] at g7; exact g7 z
      have hk2 : ¬ 99999 < k := by
        intro z
        by_cases es : s = 0
        · rw [if_pos es] at g8
          exact g8 (i3_lt.mpr (by have := i3_lt.mp z; have e0 : (99999 : Int32).toInt = 99999 := (by decide); have e1 : (9999 : Int32).toInt = 9999 := (by decide); omega))
        · rw [if_neg es] at g8; exact g8 z
      refine ⟨_, _, _, k1, h200, (congrArg (pm_call _ _) e1).symm.trans (m_grants_ok hNR h8 hh hok), Iv_fin (h := ab_hn h) (hd.year (Y' := ab_in Y N s d u k)).hist ht hB hT ?_ (hw.instr h8 (i3_rng (a := 0) (b := 3) g1 g2) (i3_rng (a := 0) (b := 359) g3 g4) (i3_rng (a := 1) (b := 9999) g5 g6) (i3_rng (a := 0) (b := 99999) hk1 hk2)) ((ab_le_in le).trans (Yv_in hw.n20 h8).symm) ?_ (by rw [fr _ (by omega)]; exact ho)⟩
      · unfold ab_hn; split <;> omega
      · refine ab_hs.push hh hs hw le (fun e => absurd e (by decide)) (fun _ => by omega) (fun _ e => absurd rfl e) (by rw [if_neg (by decide)]) (by rw [if_pos rfl]; omega) ?_
        intro i j hl
        have hl0 := hl
        unfold ab_lv at hl
        have hc : i = 0 ∨ i = 1 ∨ i = 2 ∨ i = 3 ∨ i = 4 ∨ i = 5 ∨ i = 6 ∨ i = 7 ∨ i = 8 ∨ i = 9 ∨ i = 10 ∨ i = 11 := by omega
        rcases hc with e | e | e | e | e | e | e | e | e | e | e | e <;> subst e
        · have : j = 0 := by omega
          subst this; rfl
        · rfl
        · rfl
        · have : j = 0 := by omega
          subst this; exact hw.hn
        · rfl
        · rfl
        · rfl
        · have : j = 0 := by omega
          subst this; exact hw.hN
        · exact (pk_un (by omega)).symm
        · exact (pk_un (by omega)).symm
        · exact (pk_un (by omega)).symm
        · exact (pk_un (by omega)).symm
    · have hN8 : N = 8 := by have := hw.N8; omega
      have h200 := hM.c200
      obtain ⟨s0, s3, s4, s5, s6, s7, s9, s18, s19, s20, l10, l21, l22, RD, wt, er, rk, e1⟩ := hM
      exact ⟨_, _, _, d_grants_full hd (by rw [hN, hN8]) hok, h200, (congrArg (pm_call _ _) e1).symm.trans (m_grants_full (by rw [hNR, hN8]) hok), Iv_fin hd ht hB hT hh hw le hs ho⟩
  · have h200 := hM.c200
    obtain ⟨s0, s3, s4, s5, s6, s7, s9, s18, s19, s20, l10, l21, l22, RD, wt, er, rk, e1⟩ := hM
    exact ⟨_, _, _, d_grants_bad hd hok, h200, (congrArg (pm_call _ _) e1).symm.trans (m_grants_bad hok), Iv_fin hd ht hB hT hh hw le hs ho⟩
theorem I_earns (I : IV w) {q v : Int32} : pm_pair w 68 161 [.ref 0, .int q, .int v] [.ref 200, .int q, .int v] := by
  obtain ⟨y, z, fk, B, t, h, K, Q, F, Y, n, N, TT, R, SN, c, hd, hM, ht, hB, hT, hh, hw, le, hs, o, ho⟩ := I
  by_cases hok : ¬ q < 0 ∧ q < 4 ∧ ¬ v < -99999 ∧ ¬ 99999 < v
  · obtain ⟨g1, g2, g3, g4⟩ := hok
    obtain ⟨q, hq, rfl⟩ := pm_ixN (n := 4) g1 g2 (by omega)
    have k1 := d_earns_ok hd hh hq g3 g4
    have e : pm_Yw w y (Y 0 0) (upd (Y 1) q v) (Y 2) (Y 3 0) (Y 4) (Y 5) (Y 6) (Y 7 0) (Y 8) (Y 9) (Y 10) (Y 11) = pm_YW w y (ab_set Y 1 (upd (Y 1) q v)) := rfl
    rw [e] at k1
    have fr : ∀ j, 112 < j → pm_Hw (pm_YW w y (ab_set Y 1 (upd (Y 1) q v))) (nI (ab_hn h)) (ab_hk h K 2) (ab_hk h Q (nI q)) (ab_hk h F (Y 1 q)) j = w j := fun j hj => by
      rw [hwo (by omega), pm_YWo (by have := hd.1; omega)]
    have hM1 := hM.of fr
    have h200 := hM1.c200
    obtain ⟨s0, s3, s4, s5, s6, s7, s9, s18, s19, s20, l10, l21, l22, RD, wt, er, rk, e1⟩ := hM1
    have eY : Y 1 q = Yv R 1 q := le.h1 q hq
    have k2 := m_earns_ok (w := pm_Hw (pm_YW w y (ab_set Y 1 (upd (Y 1) q v))) (nI (ab_hn h)) (ab_hk h K 2) (ab_hk h Q (nI q)) (ab_hk h F (Y 1 q))) (TT := TT) (R := R) (RD := RD) (SN := SN) (wt := wt) (er := er) (rk := rk) (s0 := s0) (s2 := nI t) (s3 := s3) (s4 := s4) (s5 := s5) (s6 := s6) (s7 := s7) (s8 := fk) (s9 := s9) (s18 := s18) (s19 := s19) (s20 := s20) (l10 := l10) (l21 := l21) (l22 := l22) hh hq g3 g4
    rw [← eY] at k2
    have hcl : (nI q).toNatClampNeg = q := nI_clamp (by omega)
    refine ⟨_, _, _, k1, h200, (congrArg (pm_call _ _) e1).symm.trans k2, Iv_fin (h := ab_hn h) (hd.year (Y' := ab_set Y 1 (upd (Y 1) q v))).hist ht hB hT ?_ (hw.profit (q := q) (i3_rng (a := -99999) (b := 99999) g3 g4)) ((ab_le_set1 le).trans (Yv_profit hw.n20 hw.N8 hq).symm) ?_ (by rw [fr _ (by omega)]; exact ho)⟩
    · unfold ab_hn; split <;> omega
    · refine ab_hs.push hh hs hw le (fun e => absurd e (by decide)) (fun e => absurd e (by decide)) (fun _ _ => by rw [hcl]; exact ⟨hq, rfl⟩) (by rw [if_neg (by decide)]) (by rw [if_neg (by decide)]) ?_
      rw [hcl]
      intro i j hl
      have hl0 := hl
      unfold ab_lv at hl
      have hc : i = 0 ∨ i = 1 ∨ i = 2 ∨ i = 3 ∨ i = 4 ∨ i = 5 ∨ i = 6 ∨ i = 7 ∨ i = 8 ∨ i = 9 ∨ i = 10 ∨ i = 11 := by omega
      rcases hc with e | e | e | e | e | e | e | e | e | e | e | e <;> subst e
      · have : j = 0 := by omega
        subst this; rfl
      · show Y 1 j = upd (upd (Y 1) q v) q (Y 1 q) j
        rw [ab_upd_back]
      · rfl
      · have : j = 0 := by omega
        subst this; exact hw.hn
      · rfl
      · rfl
      · rfl
      · have : j = 0 := by omega
        subst this; exact hw.hN
      · rfl
      · rfl
      · rfl
      · rfl
  · have h200 := hM.c200
    obtain ⟨s0, s3, s4, s5, s6, s7, s9, s18, s19, s20, l10, l21, l22, RD, wt, er, rk, e1⟩ := hM
    exact ⟨_, _, _, d_earns_bad hok, h200, (congrArg (pm_call _ _) e1).symm.trans (m_earns_bad hok), Iv_fin hd ht hB hT hh hw le hs ho⟩
theorem I_prices (I : IV w) {q v : Int32} : pm_pair w 70 163 [.ref 0, .int q, .int v] [.ref 200, .int q, .int v] := by
  obtain ⟨y, z, fk, B, t, h, K, Q, F, Y, n, N, TT, R, SN, c, hd, hM, ht, hB, hT, hh, hw, le, hs, o, ho⟩ := I
  by_cases hok : ¬ q < 0 ∧ q < 4 ∧ ¬ v < 1 ∧ ¬ 9999 < v
  · obtain ⟨g1, g2, g3, g4⟩ := hok
    obtain ⟨q, hq, rfl⟩ := pm_ixN (n := 4) g1 g2 (by omega)
    have k1 := d_prices_ok hd hh hq g3 g4
    have e : pm_Yw w y (Y 0 0) (Y 1) (upd (Y 2) q v) (Y 3 0) (Y 4) (Y 5) (Y 6) (Y 7 0) (Y 8) (Y 9) (Y 10) (Y 11) = pm_YW w y (ab_set Y 2 (upd (Y 2) q v)) := rfl
    rw [e] at k1
    have fr : ∀ j, 112 < j → pm_Hw (pm_YW w y (ab_set Y 2 (upd (Y 2) q v))) (nI (ab_hn h)) (ab_hk h K 3) (ab_hk h Q (nI q)) (ab_hk h F (Y 2 q)) j = w j := fun j hj => by
      rw [hwo (by omega), pm_YWo (by have := hd.1; omega)]
    have hM1 := hM.of fr
    have h200 := hM1.c200
    obtain ⟨s0, s3, s4, s5, s6, s7, s9, s18, s19, s20, l10, l21, l22, RD, wt, er, rk, e1⟩ := hM1
    have eY : Y 2 q = Yv R 2 q := le.h2 q hq
    have k2 := m_prices_ok (w := pm_Hw (pm_YW w y (ab_set Y 2 (upd (Y 2) q v))) (nI (ab_hn h)) (ab_hk h K 3) (ab_hk h Q (nI q)) (ab_hk h F (Y 2 q))) (TT := TT) (R := R) (RD := RD) (SN := SN) (wt := wt) (er := er) (rk := rk) (s0 := s0) (s2 := nI t) (s3 := s3) (s4 := s4) (s5 := s5) (s6 := s6) (s7 := s7) (s8 := fk) (s9 := s9) (s18 := s18) (s19 := s19) (s20 := s20) (l10 := l10) (l21 := l21) (l22 := l22) hh hq g3 g4
    rw [← eY] at k2
    have hcl : (nI q).toNatClampNeg = q := nI_clamp (by omega)
    refine ⟨_, _, _, k1, h200, (congrArg (pm_call _ _) e1).symm.trans k2, Iv_fin (h := ab_hn h) (hd.year (Y' := ab_set Y 2 (upd (Y 2) q v))).hist ht hB hT ?_ (hw.price (q := q) (i3_rng (a := 1) (b := 9999) g3 g4)) ((ab_le_set2 le).trans (Yv_price hw.n20 hw.N8 hq).symm) ?_ (by rw [fr _ (by omega)]; exact ho)⟩
    · unfold ab_hn; split <;> omega
    · refine ab_hs.push hh hs hw le (fun e => absurd e (by decide)) (fun e => absurd e (by decide)) (fun _ _ => by rw [hcl]; exact ⟨hq, rfl⟩) (by rw [if_neg (by decide)]) (by rw [if_neg (by decide)]) ?_
      rw [hcl]
      intro i j hl
      have hl0 := hl
      unfold ab_lv at hl
      have hc : i = 0 ∨ i = 1 ∨ i = 2 ∨ i = 3 ∨ i = 4 ∨ i = 5 ∨ i = 6 ∨ i = 7 ∨ i = 8 ∨ i = 9 ∨ i = 10 ∨ i = 11 := by omega
      rcases hc with e | e | e | e | e | e | e | e | e | e | e | e <;> subst e
      · have : j = 0 := by omega
        subst this; rfl
      · rfl
      · show Y 2 j = upd (upd (Y 2) q v) q (Y 2 q) j
        rw [ab_upd_back]
      · have : j = 0 := by omega
        subst this; exact hw.hn
      · rfl
      · rfl
      · rfl
      · have : j = 0 := by omega
        subst this; exact hw.hN
      · rfl
      · rfl
      · rfl
      · rfl
  · have h200 := hM.c200
    obtain ⟨s0, s3, s4, s5, s6, s7, s9, s18, s19, s20, l10, l21, l22, RD, wt, er, rk, e1⟩ := hM
    exact ⟨_, _, _, d_prices_bad hok, h200, (congrArg (pm_call _ _) e1).symm.trans (m_prices_bad hok), Iv_fin hd ht hB hT hh hw le hs ho⟩
theorem I_undo (I : IV w) : pm_pair w 72 164 [.ref 0] [.ref 200] := by
  obtain ⟨y, z, fk, B, t, h, K, Q, F, Y, n, N, TT, R, SN, c, hd, hM, ht, hB, hT, hh, hw, le, hs, o, ho⟩ := I
  cases h with
  | zero =>
    have h200 := hM.c200
    obtain ⟨s0, s3, s4, s5, s6, s7, s9, s18, s19, s20, l10, l21, l22, RD, wt, er, rk, e1⟩ := hM
    exact ⟨_, _, _, d_undo0 hd, h200, (congrArg (pm_call _ _) e1).symm.trans m_undo0, Iv_fin hd ht hB hT hh hw le hs ho⟩
  | succ h =>
    obtain ⟨a1, a2, a3, a4, a5, a6⟩ := id hs
    have k1 := d_undo hd (by omega) (q := (Q h).toNatClampNeg) hw.hn hw.n20 hw.hN hw.N8 a1 a2 (fun x1 x2 => ⟨(a3 x1 x2).2, (a3 x1 x2).1⟩)
    have fr : ∀ j, 112 < j → pm_YW (pm_Hw w (nI h) K Q F) y (ab_un Y n N (K h) (Q h).toNatClampNeg (F h)) j = w j := fun j hj => by
      rw [pm_YWo (by have := hd.1; omega), hwo (by omega)]
    have hM1 := hM.of fr
    have h200 := hM1.c200
    obtain ⟨s0, s3, s4, s5, s6, s7, s9, s18, s19, s20, l10, l21, l22, RD, wt, er, rk, e1⟩ := hM1
    refine ⟨_, _, _, k1, h200, (congrArg (pm_call _ _) e1).symm.trans (m_undo (by omega)), Iv_fin (h := h) ((hd.hist (h' := h) (K' := K) (Q' := Q) (F' := F)).year (Y' := ab_un Y n N (K h) (Q h).toNatClampNeg (F h))) ht hB hT (by omega) a4 (a5.trans ?_) a6 (by rw [fr _ (by omega)]; exact ho)⟩
    have h20 := a4.n20
    have h8 := a4.N8
    intro i j hl
    unfold ab_lv at hl
    have key : ∀ p, p < 103 → SN (103 * h + p) = ab_rw SN R h 103 p := fun p hp => (if_pos hp).symm
    have hc : i = 0 ∨ i = 1 ∨ i = 2 ∨ i = 3 ∨ i = 4 ∨ i = 5 ∨ i = 6 ∨ i = 7 ∨ i = 8 ∨ i = 9 ∨ i = 10 ∨ i = 11 := by omega
    rcases hc with e | e | e | e | e | e | e | e | e | e | e | e <;> subst e <;> exact key _ (by omega)
end PCH
