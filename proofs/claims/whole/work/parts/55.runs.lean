/-! BOTH SIDES: the calls that may throw -/
def pm_up3 (w : pm_H) (o : Nat → Int64) : pm_H := pm_up w 300 (.inl (1, 1, .inr (.inl o)))
def pm_okL (w : pm_H) (M M' : Nat) (av av' : List Value) : Prop := ∃ (r : Value) (w1 : pm_H), pm_call M av w = some (some r, w1) ∧ (∃ o0 : Nat → Int64, w1 300 = some (.inl (1, 1, .inr (.inl o0)))) ∧ ∀ o : Nat → Int64, (∃ fs, pm_up3 w1 o 200 = some (.inr (6, fs))) ∧ ∃ w2, pm_call M' av' (pm_up3 w1 o) = some (some r, w2) ∧ (∃ fs, w2 200 = some (.inr (6, fs))) ∧ pm_call 86 [.ref 200] w2 = some (some (.int 0), w2) ∧ w2 300 = some (.inl (1, 1, .inr (.inl o))) ∧ IV w2
def pm_noL (w : pm_H) (M' : Nat) (av' : List Value) : Prop := (∃ fs, w 200 = some (.inr (6, fs))) ∧ ∃ (r : Value) (w2 : pm_H), pm_call M' av' w = some (some r, w2) ∧ (∃ fs, w2 200 = some (.inr (6, fs))) ∧ pm_call 86 [.ref 200] w2 = some (some (.int 1), w2) ∧ IV w2
section PCR
variable {w w1 : pm_H} {y z t h n N a b : Nat} {fk : Int32} {B K Q F : Nat → Int32} {Y Y' Z : Nat → Nat → Int32} {TT R R' SN : Nat → Int32} {c : Nat → Nat} {M M' : Nat} {av av' : List Value} {r : Value}
theorem okL_of (hc : pm_call M av w = some (some r, w1)) (hd1 : pm_Desk w1 y z fk B t h K Q F Y') (fr : ∀ j, 112 < j → w1 j = w j) (hM : pm_Mod w t h fk TT R SN) (ho : ∃ o : Nat → Int64, w 300 = some (.inl (1, 1, .inr (.inl o)))) (ht : t ≤ 740) (hB : tz_B B c t) (hT : tz_T TT c t) (hh : h ≤ 10) (hw : ab_wf Y' n N) (le : ab_le Y' (Yv R') n N) (hs : ab_hs K Q F SN h Y' n N)
    (hm : ∀ (w' : pm_H) (RD : Nat → Int32) (wt er : Nat → Int64) (rk : Nat → Int32) (s0 s3 s4 s5 s6 s7 s9 s18 s19 s20 : Int32) (l10 l21 l22 : Int64), ∃ (s18' s19' s20' : Int32) (wt' er' : Nat → Int64) (rk' : Nat → Int32) (v' e' : Int64), pm_call M' av' (pm_Mw w' (ab_S s0 (nI t) s3 s4 s5 s6 s7 fk s9 (nI h) s18 s19 s20) (ab_Lg l10 l21 l22) TT R RD SN wt er rk) = some (some r, pm_Mw w' (ab_S 0 (nI t) s3 s4 s5 s6 s7 fk s9 (nI h) s18' s19' s20') (ab_Lg l10 v' e') TT R' RD SN wt' er' rk')) : pm_okL w M M' av av' := by
  refine ⟨r, w1, hc, by obtain ⟨o, ho⟩ := ho; exact ⟨o, by rw [fr _ (by omega)]; exact ho⟩, fun o => ?_⟩
  obtain ⟨s0, s3, s4, s5, s6, s7, s9, s18, s19, s20, l10, l21, l22, RD, wt, er, rk, e1⟩ := hM
  have e2 : pm_Mw (pm_up3 w1 o) (ab_S s0 (nI t) s3 s4 s5 s6 s7 fk s9 (nI h) s18 s19 s20) (ab_Lg l10 l21 l22) TT R RD SN wt er rk = pm_up3 w1 o := pm_Mw_of e1 (fun k h1 h2 => by unfold pm_up3; rw [pm_up_ne (by omega)]; exact fr k (by omega))
  obtain ⟨s18', s19', s20', wt', er', rk', v', e', hm⟩ := hm (pm_up3 w1 o) RD wt er rk s0 s3 s4 s5 s6 s7 s9 s18 s19 s20 l10 l21 l22
  refine ⟨⟨_, (congrFun e2 200).symm.trans mw200⟩, _, (congrArg (pm_call _ _) e2).symm.trans hm, ⟨_, mw200⟩, m_thrown, ?_, Iv_fin (o := o) (hd1.of (fun k hk => ?_)) ht hB hT hh hw le hs ?_⟩
  · rw [mwo (by omega)]; exact pm_up_same
  · unfold pm_up3; exact pm_up_ne (by omega)
  · exact pm_up_same
theorem noL_of (I : IV w) (hm : ∀ (w' : pm_H) (t h n N : Nat) (fk : Int32) (TT R SN RD : Nat → Int32) (wt er : Nat → Int64) (rk : Nat → Int32) (s0 s3 s4 s5 s6 s7 s9 s18 s19 s20 : Int32) (l10 l21 l22 : Int64) (Y : Nat → Nat → Int32), (∃ y z B K Q F, pm_Desk w y z fk B t h K Q F Y) → ab_wf Y n N → ab_wf (Yv R) n N → pm_call M' av' (pm_Mw w' (ab_S s0 (nI t) s3 s4 s5 s6 s7 fk s9 (nI h) s18 s19 s20) (ab_Lg l10 l21 l22) TT R RD SN wt er rk) = some (some r, pm_Mw w' (ab_S 1 (nI t) s3 s4 s5 s6 s7 fk s9 (nI h) s18 s19 s20) (ab_Lg l10 l21 l22) TT R RD SN wt er rk)) : pm_noL w M' av' := by
  obtain ⟨y, z, fk, B, t, h, K, Q, F, Y, n, N, TT, R, SN, c, hd, hM, ht, hB, hT, hh, hw, le, hs, o, ho⟩ := I
  have h200 := hM.c200
  obtain ⟨s0, s3, s4, s5, s6, s7, s9, s18, s19, s20, l10, l21, l22, RD, wt, er, rk, e1⟩ := hM
  exact ⟨h200, r, _, (congrArg (pm_call _ _) e1).symm.trans (hm w t h n N fk TT R SN RD wt er rk s0 s3 s4 s5 s6 s7 s9 s18 s19 s20 l10 l21 l22 Y ⟨y, z, B, K, Q, F, hd⟩ hw (hw.congr le)), ⟨_, mw200⟩, m_thrown, Iv_fin hd ht hB hT hh hw le hs ho⟩
theorem I_quarter (I : IV w) {q v : Int32} : (¬ (¬ q < 0 ∧ q < 4 ∧ (v = 0 ∨ v = 1)) → pm_noL w 124 [.ref 200, .int q, .int v]) ∧ ((¬ q < 0 ∧ q < 4 ∧ (v = 0 ∨ v = 1)) → pm_okL w 73 124 [.ref 0, .int q, .int v] [.ref 200, .int q, .int v]) := by
  refine ⟨fun hno => noL_of (r := .int 0) I (fun w' t h n N fk TT R SN RD wt er rk s0 s3 s4 s5 s6 s7 s9 s18 s19 s20 l10 l21 l22 Y _ _ _ => m_quarter0 hno), fun ⟨g1, g2, g3⟩ => ?_⟩
  obtain ⟨y, z, fk, B, t, h, K, Q, F, Y, n, N, TT, R, SN, c, hd, hM, ht, hB, hT, hh, hw, le, hs, ho⟩ := I
  obtain ⟨q, hq, rfl⟩ := pm_ixN (n := 4) g1 g2 (by omega)
  rcases g3 with rfl | rfl
  · refine okL_of (d_quarter hd hq).1 hd (fun _ _ => rfl) hM ho ht hB hT hh hw le hs (fun w' RD wt er rk s0 s3 s4 s5 s6 s7 s9 s18 s19 s20 l10 l21 l22 => ⟨s18, s19, s20, wt, er, rk, l21, l22, ?_⟩)
    rw [le.h1 q hq]
    exact (m_quarter hq).1
  · refine okL_of (d_quarter hd hq).2 hd (fun _ _ => rfl) hM ho ht hB hT hh hw le hs (fun w' RD wt er rk s0 s3 s4 s5 s6 s7 s9 s18 s19 s20 l10 l21 l22 => ⟨s18, s19, s20, wt, er, rk, l21, l22, ?_⟩)
    rw [le.h2 q hq]
    exact (m_quarter hq).2
theorem I_weight (I : IV w) {x1 x2 : Int32} : (¬ ab_rok x1 x2 → pm_noL w 132 [.ref 200, .int x1, .int x2]) ∧ (ab_rok x1 x2 → pm_okL w 74 132 [.ref 0, .int x1, .int x2] [.ref 200, .int x1, .int x2]) := by
  refine ⟨fun hno => noL_of (r := .long 0) I (fun w' t h n N fk TT R SN RD wt er rk s0 s3 s4 s5 s6 s7 s9 s18 s19 s20 l10 l21 l22 Y _ _ _ => m_weight0 hno), fun g => ?_⟩
  obtain ⟨y, z, fk, B, t, h, K, Q, F, Y, n, N, TT, R, SN, c, hd, hM, ht, hB, hT, hh, hw, le, hs, ho⟩ := I
  obtain ⟨a, b, rfl, rfl, hab, hb⟩ := ab_rok_n g
  have k1 := d_weight hd hw.hn hw.n20 hab hb
  refine okL_of k1 hd (fun _ _ => rfl) hM ho ht hB hT hh hw le hs (fun w' RD wt er rk s0 s3 s4 s5 s6 s7 s9 s18 s19 s20 l10 l21 l22 => ⟨s18, s19, s20, wt, er, rk, l21, l22, ?_⟩)
  rw [show ab_wt Y n ((nI b + 1) * 90) n 0 (nI a * 90) 0 = ab_V (Yv R) n a b from le.V]
  exact m_weight (hw.congr le) hab hb
theorem Iv_adds (I : pm_Iv w y z fk B t h K Q F Y n N TT R SN c) {i x1 x2 g : Int32} : (¬ (ab_rok x1 x2 ∧ ¬ i < 0 ∧ i < nI N) → pm_noL w 135 [.ref 200, .int i, .int x1, .int x2, .int g]) ∧ ((ab_rok x1 x2 ∧ ¬ i < 0 ∧ i < nI N) → pm_okL w 76 135 [.ref 0, .int i, .int x1, .int x2, .int g] [.ref 200, .int i, .int x1, .int x2, .int g]) := by
  have I0 : IV w := ⟨y, z, fk, B, t, h, K, Q, F, Y, n, N, TT, R, SN, c, I⟩
  obtain ⟨hd, hM, ht, hB, hT, hh, hw, le, hs, o, ho⟩ := I
  constructor
  · intro hno
    have h200 := hM.c200
    obtain ⟨s0, s3, s4, s5, s6, s7, s9, s18, s19, s20, l10, l21, l22, RD, wt, er, rk, e1⟩ := hM
    exact ⟨h200, _, _, (congrArg (pm_call _ _) e1).symm.trans (m_adds0 (hw.congr le) hno), ⟨_, mw200⟩, m_thrown, Iv_fin hd ht hB hT hh hw le hs ho⟩
  · rintro ⟨gr, g1, g2⟩
    have h8 := hw.N8
    obtain ⟨a, b, rfl, rfl, hab, hb⟩ := ab_rok_n gr
    obtain ⟨i, hi, rfl⟩ := pm_ixN g1 g2 (by omega)
    have k1 := d_adds hd hw.hn hw.n20 hw.hN hw.N8 hi hab hb (g := g)
    refine okL_of k1 hd (fun _ _ => rfl) hM ⟨o, ho⟩ ht hB hT hh hw le hs (fun w' RD wt er rk s0 s3 s4 s5 s6 s7 s9 s18 s19 s20 l10 l21 l22 => ⟨s18, s19, s20, wt, er, rk, l21, l22, ?_⟩)
    have hwR := hw.congr le
    have e : (if g = 0 then (if ab_er (Y 1) (b + 1) 0 0 < ab_ff Y i then 0 else ab_aw Y n i a b) else ab_ae Y i a b) = (if g = 0 then ab_awM (Yv R) n i a b else ab_ae (Yv R) i a b) := by
      rw [ab_awM_e hwR hi hab hb, ← le.e hb, ← le.ff hi, ← le.aw hi hab hb, ← le.ae hi]
      rfl
    rw [e]
    exact m_adds hwR hab hb hi
theorem ab_le.run (le : ab_le Y Z n N) (hab : a ≤ b) (hb : b < 4) {v : Int32} : ab_run Y n N a b v = ab_run Z n N a b v := by
  unfold ab_run
  rw [le.e hb, le.e (a := 0) hb, le.V, le.dil hab hb, le.T hab hb, le.L hab hb]
theorem I_run (I : IV w) {x1 x2 v : Int32} : (¬ (ab_rok x1 x2 ∧ ¬ v < 0 ∧ ¬ 5 < v) → pm_noL w 142 [.ref 200, .int x1, .int x2, .int v]) ∧ ((ab_rok x1 x2 ∧ ¬ v < 0 ∧ ¬ 5 < v) → pm_okL w 77 142 [.ref 0, .int x1, .int x2, .int v] [.ref 200, .int x1, .int x2, .int v]) := by
  refine ⟨fun hno => noL_of (r := .int 0) I (fun w' t h n N fk TT R SN RD wt er rk s0 s3 s4 s5 s6 s7 s9 s18 s19 s20 l10 l21 l22 Y _ _ _ => m_run0 hno), fun ⟨g, g1, g2⟩ => ?_⟩
  obtain ⟨y, z, fk, B, t, h, K, Q, F, Y, n, N, TT, R, SN, c, hd, hM, ht, hB, hT, hh, hw, le, hs, ho⟩ := I
  obtain ⟨a, b, rfl, rfl, hab, hb⟩ := ab_rok_n g
  obtain ⟨w', k1, hd', fr⟩ := d_run hd hw.hn hw.n20 hw.hN hw.N8 hab hb g1 g2
  rw [le.run hab hb] at k1
  exact okL_of k1 hd' (fun j hj => fr j (by omega)) hM ho ht hB hT hh hw le hs (fun w' RD wt er rk s0 s3 s4 s5 s6 s7 s9 s18 s19 s20 l10 l21 l22 => m_run (hw.congr le) hab hb g1 g2)
theorem I_rank (I : IV w) {x1 x2 v : Int32} : (¬ ab_rok x1 x2 → pm_noL w 148 [.ref 200, .int x1, .int x2, .int v]) ∧ (ab_rok x1 x2 → pm_okL w 78 148 [.ref 0, .int x1, .int x2, .int v] [.ref 200, .int x1, .int x2, .int v]) := by
  refine ⟨fun hno => noL_of (r := .int 0) I (fun w' t h n N fk TT R SN RD wt er rk s0 s3 s4 s5 s6 s7 s9 s18 s19 s20 l10 l21 l22 Y _ _ _ => m_rank0 hno), fun g => ?_⟩
  obtain ⟨y, z, fk, B, t, h, K, Q, F, Y, n, N, TT, R, SN, c, hd, hM, ht, hB, hT, hh, hw, le, hs, ho⟩ := I
  obtain ⟨a, b, rfl, rfl, hab, hb⟩ := ab_rok_n g
  obtain ⟨w', k1, hd', fr⟩ := d_rank hd hw.hn hw.n20 hw.hN hw.N8 hab hb (v := v)
  rw [le.e (a := 0) hb, le.L hab hb] at k1
  exact okL_of k1 hd' (fun j hj => fr j (by omega)) hM ho ht hB hT hh hw le hs (fun w' RD wt er rk s0 s3 s4 s5 s6 s7 s9 s18 s19 s20 l10 l21 l22 => m_rank (hw.congr le) hab hb)
theorem I_without (I : IV w) {i x1 x2 : Int32} : (¬ ab_rok x1 x2 → pm_noL w 149 [.ref 200, .int i, .int x1, .int x2]) ∧ (ab_rok x1 x2 → pm_okL w 79 149 [.ref 0, .int i, .int x1, .int x2] [.ref 200, .int i, .int x1, .int x2]) := by
  refine ⟨fun hno => noL_of (r := .int 0) I (fun w' t h n N fk TT R SN RD wt er rk s0 s3 s4 s5 s6 s7 s9 s18 s19 s20 l10 l21 l22 Y _ _ _ => m_without0 hno), fun g => ?_⟩
  obtain ⟨y, z, fk, B, t, h, K, Q, F, Y, n, N, TT, R, SN, c, hd, hM, ht, hB, hT, hh, hw, le, hs, ho⟩ := I
  obtain ⟨a, b, rfl, rfl, hab, hb⟩ := ab_rok_n g
  obtain ⟨w', k1, hd', fr⟩ := d_without hd hw.hn hw.n20 hw.hN hw.N8 hab hb (i := i)
  rw [le.dil hab hb] at k1
  exact okL_of k1 hd' (fun j hj => fr j (by omega)) hM ho ht hB hT hh hw le hs (fun w' RD wt er rk s0 s3 s4 s5 s6 s7 s9 s18 s19 s20 l10 l21 l22 => m_without (hw.congr le) hab hb)
theorem ab_with_le (le : ab_le Y Z n N) (h8 : N ≤ 8) (hab : a ≤ b) (hb : b < 4) {s : Int32} : ab_with Y n N a b s = ab_with Z n N a b s := by
  have hL : ab_L Y n N a b (-1) (ab_e Y 0 b) = ab_L Z n N a b (-1) (ab_e Z 0 b) := by rw [le.e (a := 0) hb, le.L hab hb]
  have hm : ∀ j, j < 8 → ab_bit (s &&& ab_sl (ab_L Z n N a b (-1) (ab_e Z 0 b)) 0) j → j < N := by
    intro j hj hbit
    have h1 := ((ab_bit_and (by omega)).mp hbit).2
    rcases (ab_sl_bit hj _ 0 (fun i hi => by have := ab_rl_mem hi; omega)).mp h1 with h2 | h2
    · exact absurd h2 (ab_bit_0 (by omega))
    · exact ab_rl_mem h2
  have k1 : ∀ (t : Int32) (x : Int64), (∀ j, j < 8 → ab_bit t j → j < N) → ab_sum t (ab_E Y a b) 8 0 x = ab_sum t (ab_E Z a b) 8 0 x := fun t x ht => ab_sum_congr (f := ab_E Y a b) (g := ab_E Z a b) 8 0 x (fun j _ hj => ⟨Iff.rfl, fun hb' => le.ae (ht j (by omega) hb')⟩)
  have k2 : ∀ (t : Int32) (x : Int64), (∀ j, j < 8 → ab_bit t j → j < N) → ab_sum t (ab_W Y n a b) 8 0 x = ab_sum t (ab_W Z n a b) 8 0 x := fun t x ht => ab_sum_congr (f := ab_W Y n a b) (g := ab_W Z n a b) 8 0 x (fun j _ hj => ⟨Iff.rfl, fun hb' => le.aw (ht j (by omega) hb') hab hb⟩)
  unfold ab_with
  rw [hL, le.e hb, le.V, k1 _ _ hm, k2 _ _ hm]
theorem I_with (I : IV w) {s x1 x2 : Int32} : (¬ ab_rok x1 x2 → pm_noL w 150 [.ref 200, .int s, .int x1, .int x2]) ∧ (ab_rok x1 x2 → pm_okL w 81 150 [.ref 0, .int s, .int x1, .int x2] [.ref 200, .int s, .int x1, .int x2]) := by
  refine ⟨fun hno => noL_of (r := .int 0) I (fun w' t h n N fk TT R SN RD wt er rk s0 s3 s4 s5 s6 s7 s9 s18 s19 s20 l10 l21 l22 Y _ _ _ => m_with0 hno), fun g => ?_⟩
  obtain ⟨y, z, fk, B, t, h, K, Q, F, Y, n, N, TT, R, SN, c, hd, hM, ht, hB, hT, hh, hw, le, hs, ho⟩ := I
  obtain ⟨a, b, rfl, rfl, hab, hb⟩ := ab_rok_n g
  by_cases hok : ¬ s < 0 ∧ s < 1 <<< (nI N &&& 31)
  · obtain ⟨w', k1, hd', fr⟩ := d_with_ok hd hw.hn hw.n20 hw.hN hw.N8 hab hb hok.1 (by rw [hw.hN]; exact hok.2)
    rw [ab_with_le le hw.N8 hab hb] at k1
    exact okL_of k1 hd' (fun j hj => fr j (by omega)) hM ho ht hB hT hh hw le hs (fun w' RD wt er rk s0 s3 s4 s5 s6 s7 s9 s18 s19 s20 l10 l21 l22 => ⟨s18, s19, s20, wt, er, rk, l21, l22, m_with (hw.congr le) hab hb hok.1 hok.2⟩)
  · have hno : s < 0 ∨ ¬ s < 1 <<< (nI N &&& 31) := by
      by_cases h0 : s < 0
      · exact Or.inl h0
      · exact Or.inr (fun z => hok ⟨h0, z⟩)
    exact okL_of (d_with_bad hd hab hb (by rw [hw.hN]; exact hno)) hd (fun _ _ => rfl) hM ho ht hB hT hh hw le hs (fun w' RD wt er rk s0 s3 s4 s5 s6 s7 s9 s18 s19 s20 l10 l21 l22 => ⟨s18, s19, s20, wt, er, rk, l21, l22, m_with_bad (hw.congr le) hab hb hno⟩)
theorem I_priced (I : IV w) {q v x1 x2 : Int32} : (¬ ab_rok x1 x2 → pm_noL w 152 [.ref 200, .int q, .int v, .int x1, .int x2]) ∧ (ab_rok x1 x2 → pm_okL w 82 152 [.ref 0, .int q, .int v, .int x1, .int x2] [.ref 200, .int q, .int v, .int x1, .int x2]) := by
  refine ⟨fun hno => noL_of (r := .int 0) I (fun w' t h n N fk TT R SN RD wt er rk s0 s3 s4 s5 s6 s7 s9 s18 s19 s20 l10 l21 l22 Y _ _ _ => m_priced0 hno), fun g => ?_⟩
  obtain ⟨y, z, fk, B, t, h, K, Q, F, Y, n, N, TT, R, SN, c, hd, hM, ht, hB, hT, hh, hw, le, hs, ho⟩ := I
  obtain ⟨a, b, rfl, rfl, hab, hb⟩ := ab_rok_n g
  by_cases hok : ¬ q < 0 ∧ q < 4 ∧ ¬ v < 1 ∧ ¬ 9999 < v
  · obtain ⟨g1, g2, g3, g4⟩ := hok
    obtain ⟨q, hq, rfl⟩ := pm_ixN (n := 4) g1 g2 (by omega)
    obtain ⟨w', k1, hd', fr⟩ := d_priced_ok hd hw.hn hw.n20 hw.hN hw.N8 hab hb hq g3 g4
    rw [(ab_le_set2 le).dil hab hb] at k1
    exact okL_of k1 hd' (fun j hj => fr j (by omega)) hM ho ht hB hT hh hw le hs (fun w' RD wt er rk s0 s3 s4 s5 s6 s7 s9 s18 s19 s20 l10 l21 l22 => m_priced (hw.congr le) hab hb hq g3 g4)
  · exact okL_of (d_priced_bad hab hb hok) hd (fun _ _ => rfl) hM ho ht hB hT hh hw le hs (fun w' RD wt er rk s0 s3 s4 s5 s6 s7 s9 s18 s19 s20 l10 l21 l22 => ⟨s18, s19, s20, wt, er, rk, l21, l22, m_priced_bad hab hb hok⟩)
theorem I_profit (I : IV w) {q i x1 x2 : Int32} : (¬ ab_rok x1 x2 → pm_noL w 154 [.ref 200, .int q, .int i, .int x1, .int x2]) ∧ (ab_rok x1 x2 → pm_okL w 83 154 [.ref 0, .int q, .int i, .int x1, .int x2] [.ref 200, .int q, .int i, .int x1, .int x2]) := by
  refine ⟨fun hno => noL_of (r := .int 0) I (fun w' t h n N fk TT R SN RD wt er rk s0 s3 s4 s5 s6 s7 s9 s18 s19 s20 l10 l21 l22 Y _ _ _ => m_profit0 hno), fun g => ?_⟩
  obtain ⟨y, z, fk, B, t, h, K, Q, F, Y, n, N, TT, R, SN, c, hd, hM, ht, hB, hT, hh, hw, le, hs, ho⟩ := I
  obtain ⟨a, b, rfl, rfl, hab, hb⟩ := ab_rok_n g
  have h8 := hw.N8
  by_cases hok : ¬ q < 0 ∧ q < 4 ∧ ¬ i < 0 ∧ i < nI N
  · obtain ⟨g1, g2, g3, g4⟩ := hok
    obtain ⟨q, hq, rfl⟩ := pm_ixN (n := 4) g1 g2 (by omega)
    obtain ⟨i, hi, rfl⟩ := pm_ixN g3 g4 (by omega)
    obtain ⟨w', k1, hd', fr⟩ := d_profit_ok hd hw.hn hw.n20 hw.hN hw.N8 hab hb hq hi
    have e : ab_pl (ab_pc Y n N a b q i) (ab_pcd Y n N a b q i) 1000 0 = ab_pl (ab_pc (Yv R) n N a b q i) (ab_pcd (Yv R) n N a b q i) 1000 0 := by
      refine ab_pl_c (fun k hk => ?_) 1000 0 (by omega)
      have eo : ∀ (a : Nat) (v : Int32), ab_oth Y a b q v = ab_oth (Yv R) a b q v := fun a v => by
        unfold ab_oth
        rw [le.e hb, le.h1 q hq]
      unfold ab_pc
      rw [eo, eo, le.T hab hb]
    rw [e] at k1
    exact okL_of k1 hd' (fun j hj => fr j (by omega)) hM ho ht hB hT hh hw le hs (fun w' RD wt er rk s0 s3 s4 s5 s6 s7 s9 s18 s19 s20 l10 l21 l22 => m_profit (hw.congr le) hab hb hq hi)
  · exact okL_of (d_profit_bad hd hab hb (by rw [hw.hN]; exact hok)) hd (fun _ _ => rfl) hM ho ht hB hT hh hw le hs (fun w' RD wt er rk s0 s3 s4 s5 s6 s7 s9 s18 s19 s20 l10 l21 l22 => ⟨s18, s19, s20, wt, er, rk, l21, l22, m_profit_bad (hw.congr le) hab hb hok⟩)
theorem I_ifSplit (I : IV w) {v x1 x2 : Int32} : (¬ ab_rok x1 x2 → pm_noL w 155 [.ref 200, .int v, .int x1, .int x2]) ∧ (ab_rok x1 x2 → pm_okL w 85 155 [.ref 0, .int v, .int x1, .int x2] [.ref 200, .int v, .int x1, .int x2]) := by
  refine ⟨fun hno => noL_of (r := .int 0) I (fun w' t h n N fk TT R SN RD wt er rk s0 s3 s4 s5 s6 s7 s9 s18 s19 s20 l10 l21 l22 Y _ _ _ => m_ifSplit0 hno), fun g => ?_⟩
  obtain ⟨y, z, fk, B, t, h, K, Q, F, Y, n, N, TT, R, SN, c, hd, hM, ht, hB, hT, hh, hw, le, hs, ho⟩ := I
  obtain ⟨a, b, rfl, rfl, hab, hb⟩ := ab_rok_n g
  have hld := ab_ld_nn hw
  by_cases hok : ¬ v < 2 ∧ ¬ 9 < v ∧ ab_room Y n 2
  · obtain ⟨g1, g2, g3⟩ := hok
    have g3R := (ab_room_le le).mp g3
    obtain ⟨w', k1, hd', fr⟩ := d_ifSplit_ok hd hw.hn hw.hN hw.N8 hab hb hld g1 g2 g3
    rw [(ab_le_ev2 le).dil hab hb] at k1
    have leY : ab_le Y (ab_set (ab_ev Y n 2 (ab_ld Y n) v) 3 (fun _ => nI n)) n N := by
      intro i j hl
      unfold ab_lv at hl
      have hc : i = 0 ∨ i = 1 ∨ i = 2 ∨ i = 3 ∨ i = 4 ∨ i = 5 ∨ i = 6 ∨ i = 7 ∨ i = 8 ∨ i = 9 ∨ i = 10 ∨ i = 11 := by omega
      rcases hc with e | e | e | e | e | e | e | e | e | e | e | e <;> subst e
      · rfl
      · rfl
      · rfl
      · have : j = 0 := by omega
        subst this; exact hw.hn
      · exact (pk_un (by omega)).symm
      · exact (pk_un (by omega)).symm
      · exact (pk_un (by omega)).symm
      · rfl
      · rfl
      · rfl
      · rfl
      · rfl
    have leR : ab_le (Yv R) (Yv (upd (Rv_ev R n 2 (ab_ld (Yv R) n) v) 9 (nI n))) n N := by
      have h20 := g3.1
      have h8 := hw.N8
      intro i j hl
      unfold ab_lv at hl
      have key : ∀ p, p ≠ 9 → p ≠ 10 + 3 * n → p ≠ 10 + 3 * n + 1 → p ≠ 10 + 3 * n + 2 → R p = upd (Rv_ev R n 2 (ab_ld (Yv R) n) v) 9 (nI n) p := fun p h1 h2 h3 h4 => by
        rw [pk_un h1, Rv_ev_x h1 h2 h3 h4]
      have hc : i = 0 ∨ i = 1 ∨ i = 2 ∨ i = 3 ∨ i = 4 ∨ i = 5 ∨ i = 6 ∨ i = 7 ∨ i = 8 ∨ i = 9 ∨ i = 10 ∨ i = 11 := by omega
      rcases hc with e | e | e | e | e | e | e | e | e | e | e | e <;> subst e
      · exact key _ (by omega) (by omega) (by omega) (by omega)
      · exact key _ (by omega) (by omega) (by omega) (by omega)
      · exact key _ (by omega) (by omega) (by omega) (by omega)
      · show R 9 = upd _ 9 (nI n) 9
        rw [pk_us]; exact (hw.congr le).hn
      · exact key _ (by omega) (by omega) (by omega) (by omega)
      · exact key _ (by omega) (by omega) (by omega) (by omega)
      · exact key _ (by omega) (by omega) (by omega) (by omega)
      · exact key _ (by omega) (by omega) (by omega) (by omega)
      · exact key _ (by omega) (by omega) (by omega) (by omega)
      · exact key _ (by omega) (by omega) (by omega) (by omega)
      · exact key _ (by omega) (by omega) (by omega) (by omega)
      · exact key _ (by omega) (by omega) (by omega) (by omega)
    refine okL_of k1 hd' (fun j hj => fr j (by omega)) hM ho ht hB hT hh (hw.congr leY) (leY.symm.trans (le.trans leR)) (ab_hs.le _ _ _ _ _ leY hs) (fun w' RD wt er rk s0 s3 s4 s5 s6 s7 s9 s18 s19 s20 l10 l21 l22 => ?_)
    rw [le.ld]
    exact m_ifSplit (hw.congr le) hab hb g1 g2 g3R
  · exact okL_of (d_ifSplit_bad hd hw.hn hw.n20 hab hb hok) hd (fun _ _ => rfl) hM ho ht hB hT hh hw le hs (fun w' RD wt er rk s0 s3 s4 s5 s6 s7 s9 s18 s19 s20 l10 l21 l22 => ⟨s18, s19, s20, wt, er, rk, l21, l22, m_ifSplit_bad (hw.congr le) hab hb (fun ⟨z1, z2, z3⟩ => hok ⟨z1, z2, (ab_room_le le).mpr z3⟩)⟩)
end PCR
