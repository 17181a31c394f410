/-! BOTH SIDES, call by call -/
def pm_pair (w : pm_H) (M M' : Nat) (av av' : List Value) : Prop := ∃ (r : Int32) (w1 w2 : pm_H), pm_call M av w = some (some (.int r), w1) ∧ (∃ fs, w1 200 = some (.inr (6, fs))) ∧ pm_call M' av' w1 = some (some (.int r), w2) ∧ IV w2
section PCC
variable {w w1 : pm_H} {y z t h n N : Nat} {fk : Int32} {B K Q F : Nat → Int32} {Y : Nat → Nat → Int32} {TT R SN : Nat → Int32} {c : Nat → Nat}
theorem Iv_fin {RD : Nat → Int32} {wt er : Nat → Int64} {rk : Nat → Int32} {s0 s3 s4 s5 s6 s7 s9 s18 s19 s20 : Int32} {l10 l21 l22 : Int64} {o : Nat → Int64} (hd : pm_Desk w1 y z fk B t h K Q F Y) (ht : t ≤ 740) (hB : tz_B B c t) (hT : tz_T TT c t) (hh : h ≤ 10) (hw : ab_wf Y n N) (le : ab_le Y (Yv R) n N) (hs : ab_hs K Q F SN h Y n N) (ho : w1 300 = some (.inl (1, 1, .inr (.inl o)))) :
    IV (pm_Mw w1 (ab_S s0 (nI t) s3 s4 s5 s6 s7 fk s9 (nI h) s18 s19 s20) (ab_Lg l10 l21 l22) TT R RD SN wt er rk) :=
  ⟨y, z, fk, B, t, h, K, Q, F, Y, n, N, TT, R, SN, c, hd.of (fun k hk => mwo (by omega)), ⟨s0, s3, s4, s5, s6, s7, s9, s18, s19, s20, l10, l21, l22, RD, wt, er, rk, mww⟩, ht, hB, hT, hh, hw, le, hs, o, by rw [mwo (by omega)]; exact ho⟩
theorem pm_Mod.of (hM : pm_Mod w t h fk TT R SN) (hq : ∀ j, 112 < j → w1 j = w j) : pm_Mod w1 t h fk TT R SN := by
  obtain ⟨s0, s3, s4, s5, s6, s7, s9, s18, s19, s20, l10, l21, l22, RD, wt, er, rk, e⟩ := hM
  exact ⟨s0, s3, s4, s5, s6, s7, s9, s18, s19, s20, l10, l21, l22, RD, wt, er, rk, pm_Mw_of e (fun k h1 _ => hq k (by omega))⟩
theorem pm_Mod.c200 (hM : pm_Mod w t h fk TT R SN) : ∃ fs, w 200 = some (.inr (6, fs)) := by
  obtain ⟨s0, s3, s4, s5, s6, s7, s9, s18, s19, s20, l10, l21, l22, RD, wt, er, rk, e⟩ := hM
  exact ⟨_, (congrFun e 200).symm.trans mw200⟩
/-- the codes of both tapes -/
def tz_P (B TT : Nat → Int32) (t : Nat) : Prop := ∀ j, j < t → ∃ x, x < 256 ∧ B j = tz_b x ∧ TT j = nI x
theorem tz_P_of (hB : tz_B B c t) (hT : tz_T TT c t) : tz_P B TT t := fun j hj => ⟨c j, (hB j hj).1, (hB j hj).2, (hT j hj).2⟩
theorem tz_P_to (h : tz_P B TT t) : ∃ c, tz_B B c t ∧ tz_T TT c t := by
  refine ⟨fun j => (TT j).toNatClampNeg, fun j hj => ?_, fun j hj => ?_⟩
  · obtain ⟨x, h1, h2, h3⟩ := h j hj
    have : (TT j).toNatClampNeg = x := by rw [h3]; exact nI_clamp (by omega)
    show (TT j).toNatClampNeg < 256 ∧ B j = tz_b (TT j).toNatClampNeg
    rw [this]
    exact ⟨h1, h2⟩
  · obtain ⟨x, h1, h2, h3⟩ := h j hj
    have : (TT j).toNatClampNeg = x := by rw [h3]; exact nI_clamp (by omega)
    show (TT j).toNatClampNeg < 256 ∧ TT j = nI (TT j).toNatClampNeg
    rw [this]
    exact ⟨h1, h3⟩
theorem b_i8 {x y : Int32} (h : ∀ i, i < 8 → bt x i = bt y i) : x.toInt8 = y.toInt8 := by
  refine Int8.toBitVec_inj.mp (BitVec.eq_of_getLsbD_eq (fun i hi => ?_))
  rw [Int32.toBitVec_toInt8, Int32.toBitVec_toInt8, BitVec.getLsbD_signExtend, BitVec.getLsbD_signExtend]
  have h1 := h i hi
  unfold bt at h1
  rw [if_pos (show i < 32 by omega), if_pos (show i < 32 by omega), h1]
theorem ab_bM_by {v : Int32} {m : Nat} (hm : m = 24 ∨ m = 16 ∨ m = 8 ∨ m = 0) : ∃ x, x < 256 ∧ ab_by v (nI m) = tz_b x ∧ ab_bM v (nI m) = nI x := by
  have hm32 : m < 32 := by omega
  obtain ⟨x, hx, e⟩ := pk_andE ((v.toUInt32 >>> ((nI m).toUInt32 &&& Int32.toUInt32 31)).toInt32) (m := 255) 8 (by decide)
  refine ⟨x, hx, ?_, e⟩
  unfold ab_by tz_b
  rw [← e]
  congr 1
  refine b_i8 (fun i hi => ?_)
  rw [b_sshr m hm32 v (by omega), if_pos (by omega), b_and, b_ushr m hm32, b_255, decide_eq_true hi, Bool.and_true]
theorem tz_P_put {v : Int32} (hp : tz_P B TT n) : tz_P (ab_put B n v) (ab_putM TT n v) (n + 4) := by
  intro j hj
  unfold ab_put ab_putM
  by_cases e3 : j = n + 3
  · subst e3; rw [pk_us, pk_us]; exact ab_bM_by (m := 0) (by omega)
  · rw [pk_un e3, pk_un e3]
    by_cases e2 : j = n + 2
    · subst e2; rw [pk_us, pk_us]; exact ab_bM_by (m := 8) (by omega)
    · rw [pk_un e2, pk_un e2]
      by_cases e1 : j = n + 1
      · subst e1; rw [pk_us, pk_us]; exact ab_bM_by (m := 16) (by omega)
      · rw [pk_un e1, pk_un e1]
        by_cases e0 : j = n
        · subst e0; rw [pk_us, pk_us]; exact ab_bM_by (m := 24) (by omega)
        · rw [pk_un e0, pk_un e0]; exact hp j (by omega)
theorem I_feed (I : IV w) {a b d e f : Int32} : pm_pair w 55 87 [.ref 0, .int a, .int b, .int d, .int e, .int f] [.ref 200, .int a, .int b, .int d, .int e, .int f] := by
  obtain ⟨y, z, fk, B, t, h, K, Q, F, Y, n, N, TT, R, SN, c, hd, hM, ht, hB, hT, hh, hw, le, hs, o, ho⟩ := I
  by_cases hx : t ≤ 720
  · have fr : ∀ j, 112 < j → pm_Tw w (ab_put (ab_put (ab_put (ab_put (ab_put B t a) (t + 4) b) (t + 8) d) (t + 12) e) (t + 16) f) (nI (t + 20)) j = w j := fun j hj => two (by omega)
    have hM1 := hM.of fr
    have h200 := hM1.c200
    obtain ⟨s0, s3, s4, s5, s6, s7, s9, s18, s19, s20, l10, l21, l22, RD, wt, er, rk, e1⟩ := hM1
    have hP := tz_P_put (v := f) (tz_P_put (v := e) (tz_P_put (v := d) (tz_P_put (v := b) (tz_P_put (v := a) (tz_P_of hB hT)))))
    obtain ⟨c', hB', hT'⟩ := tz_P_to hP
    exact ⟨_, _, _, d_feed hd hx, h200, (congrArg (pm_call _ _) e1).symm.trans (m_feed hx), Iv_fin (t := t + 20) hd.tape (by omega) hB' hT' hh hw le hs (by rw [fr _ (by omega)]; exact ho)⟩
  · have h200 := hM.c200
    obtain ⟨s0, s3, s4, s5, s6, s7, s9, s18, s19, s20, l10, l21, l22, RD, wt, er, rk, e1⟩ := hM
    exact ⟨_, _, _, d_feed0 hd ht (by omega), h200, (congrArg (pm_call _ _) e1).symm.trans (m_feed0 ht (by omega)), Iv_fin hd ht hB hT hh hw le hs ho⟩
theorem I_end (I : IV w) {v : Int32} : pm_pair w 56 89 [.ref 0, .int v] [.ref 200, .int v] := by
  obtain ⟨y, z, fk, B, t, h, K, Q, F, Y, n, N, TT, R, SN, c, hd, hM, ht, hB, hT, hh, hw, le, hs, o, ho⟩ := I
  have h200 := hM.c200
  by_cases h0 : v < 0
  · obtain ⟨s0, s3, s4, s5, s6, s7, s9, s18, s19, s20, l10, l21, l22, RD, wt, er, rk, e1⟩ := hM
    have k1 := d_end hd (n := v)
    have k2 := m_end (w := w) (TT := TT) (R := R) (RD := RD) (SN := SN) (wt := wt) (er := er) (rk := rk) (s0 := s0) (s3 := s3) (s4 := s4) (s5 := s5) (s6 := s6) (s7 := s7) (s8 := fk) (s9 := s9) (s14 := nI h) (s18 := s18) (s19 := s19) (s20 := s20) (l10 := l10) (l21 := l21) (l22 := l22) (t := t) (n := v)
    rw [if_pos h0, if_pos h0] at k1 k2
    exact ⟨_, _, _, k1, h200, (congrArg (pm_call _ _) e1).symm.trans k2, Iv_fin hd ht hB hT hh hw le hs ho⟩
  · by_cases h1 : nI t < v
    · obtain ⟨s0, s3, s4, s5, s6, s7, s9, s18, s19, s20, l10, l21, l22, RD, wt, er, rk, e1⟩ := hM
      have k1 := d_end hd (n := v)
      have k2 := m_end (w := w) (TT := TT) (R := R) (RD := RD) (SN := SN) (wt := wt) (er := er) (rk := rk) (s0 := s0) (s3 := s3) (s4 := s4) (s5 := s5) (s6 := s6) (s7 := s7) (s8 := fk) (s9 := s9) (s14 := nI h) (s18 := s18) (s19 := s19) (s20 := s20) (l10 := l10) (l21 := l21) (l22 := l22) (t := t) (n := v)
      rw [if_neg h0, if_neg h0, if_pos h1, if_pos h1] at k1 k2
      exact ⟨_, _, _, k1, h200, (congrArg (pm_call _ _) e1).symm.trans k2, Iv_fin hd ht hB hT hh hw le hs ho⟩
    · obtain ⟨v', hv', rfl⟩ := nI_of h0
      have hv : v' ≤ t := by
        rcases Nat.lt_or_ge t v' with q | q
        · exact absurd (nI_lt q hv') h1
        · exact q
      have fr : ∀ j, 112 < j → pm_Tw w B (nI v') j = w j := fun j hj => two (by omega)
      have hM1 := hM.of fr
      have h200 := hM1.c200
      obtain ⟨s0, s3, s4, s5, s6, s7, s9, s18, s19, s20, l10, l21, l22, RD, wt, er, rk, e1⟩ := hM1
      have k1 := d_end hd (n := nI v')
      have k2 := m_end (w := pm_Tw w B (nI v')) (TT := TT) (R := R) (RD := RD) (SN := SN) (wt := wt) (er := er) (rk := rk) (s0 := s0) (s3 := s3) (s4 := s4) (s5 := s5) (s6 := s6) (s7 := s7) (s8 := fk) (s9 := s9) (s14 := nI h) (s18 := s18) (s19 := s19) (s20 := s20) (l10 := l10) (l21 := l21) (l22 := l22) (t := t) (n := nI v')
      rw [if_neg h0, if_neg h0, if_neg h1, if_neg h1] at k1 k2
      exact ⟨_, _, _, k1, h200, (congrArg (pm_call _ _) e1).symm.trans k2, Iv_fin (t := v') hd.tape (by omega) (fun j hj => hB j (by omega)) (fun j hj => hT j (by omega)) hh hw le hs (by rw [fr _ (by omega)]; exact ho)⟩
theorem I_fault (I : IV w) : pm_pair w 60 118 [.ref 0] [.ref 200] := by
  obtain ⟨y, z, fk, B, t, h, K, Q, F, Y, n, N, TT, R, SN, c, hd, hM, ht, hB, hT, hh, hw, le, hs, o, ho⟩ := I
  have h200 := hM.c200
  obtain ⟨s0, s3, s4, s5, s6, s7, s9, s18, s19, s20, l10, l21, l22, RD, wt, er, rk, e1⟩ := hM
  exact ⟨_, _, _, d_fault hd, h200, (congrArg (pm_call _ _) e1).symm.trans m_fault, Iv_fin hd ht hB hT hh hw le hs ho⟩
theorem I_now (I : IV w) {v : Int32} : pm_pair w 61 119 [.ref 0, .int v] [.ref 200, .int v] := by
  obtain ⟨y, z, fk, B, t, h, K, Q, F, Y, n, N, TT, R, SN, c, hd, hM, ht, hB, hT, hh, hw, le, hs, o, ho⟩ := I
  have h200 := hM.c200
  obtain ⟨s0, s3, s4, s5, s6, s7, s9, s18, s19, s20, l10, l21, l22, RD, wt, er, rk, e1⟩ := hM
  have k1 := d_now hd hw.hn hw.n20 (v := v)
  have e5 : (if n = 0 then -1 else Y 5 (n - 1)) = (if n = 0 then -1 else Yv R 5 (n - 1)) := by
    split
    · rfl
    · exact le.h5 _ (by omega)
  rw [le.h7, le.sc, le.sh 359, e5] at k1
  exact ⟨_, _, _, k1, h200, (congrArg (pm_call _ _) e1).symm.trans (m_now (hw.congr le)), Iv_fin hd ht hB hT hh hw le hs ho⟩
theorem I_shares (I : IV w) {v g : Int32} : pm_pair w 62 120 [.ref 0, .int v, .int g] [.ref 200, .int v, .int g] := by
  obtain ⟨y, z, fk, B, t, h, K, Q, F, Y, n, N, TT, R, SN, c, hd, hM, ht, hB, hT, hh, hw, le, hs, o, ho⟩ := I
  have h200 := hM.c200
  obtain ⟨s0, s3, s4, s5, s6, s7, s9, s18, s19, s20, l10, l21, l22, RD, wt, er, rk, e1⟩ := hM
  have k1 := d_shares hd hw.hn hw.n20 (d := v) (g := g)
  rw [le.sh v, le.rs v] at k1
  exact ⟨_, _, _, k1, h200, (congrArg (pm_call _ _) e1).symm.trans (m_shares (hw.congr le)), Iv_fin hd ht hB hT hh hw le hs ho⟩
theorem I_event (I : IV w) {k v : Int32} : pm_pair w 64 127 [.ref 0, .int k, .int v] [.ref 200, .int k, .int v] := by
  obtain ⟨y, z, fk, B, t, h, K, Q, F, Y, n, N, TT, R, SN, c, hd, hM, ht, hB, hT, hh, hw, le, hs, o, ho⟩ := I
  have h200 := hM.c200
  obtain ⟨s0, s3, s4, s5, s6, s7, s9, s18, s19, s20, l10, l21, l22, RD, wt, er, rk, e1⟩ := hM
  have k1 := d_event hd hw.hn hw.n20 (k := k) (v := v)
  have k2 := m_event (w := w) (TT := TT) (R := R) (RD := RD) (SN := SN) (wt := wt) (er := er) (rk := rk) (s0 := s0) (s2 := nI t) (s3 := s3) (s4 := s4) (s5 := s5) (s6 := s6) (s7 := s7) (s8 := fk) (s9 := s9) (s14 := nI h) (s18 := s18) (s19 := s19) (s20 := s20) (l10 := l10) (l21 := l21) (l22 := l22) (k := k) (v := v) (hw.congr le)
  have e : (if k < 0 then -1 else if k < nI n then (if v = 0 then Y 4 k.toNatClampNeg else if v = 1 then Y 5 k.toNatClampNeg else if v = 2 then Y 6 k.toNatClampNeg else -1) else -1) = (if k < 0 then -1 else if k < nI n then (if v = 0 then Yv R 4 k.toNatClampNeg else if v = 1 then Yv R 5 k.toNatClampNeg else if v = 2 then Yv R 6 k.toNatClampNeg else -1) else -1) := by
    by_cases h0 : k < 0
    · rw [if_pos h0, if_pos h0]
    · rw [if_neg h0, if_neg h0]
      by_cases h1 : k < nI n
      · have hn := hw.n20
        obtain ⟨j, hj, rfl⟩ := pm_ixN h0 h1 (by omega)
        rw [nI_clamp (by omega), le.h4 j hj, le.h5 j hj, le.h6 j hj]
      · rw [if_neg h1, if_neg h1]
  rw [e] at k1
  exact ⟨_, _, _, k1, h200, (congrArg (pm_call _ _) e1).symm.trans k2, Iv_fin hd ht hB hT hh hw le hs ho⟩
theorem I_instrument (I : IV w) {k v : Int32} : pm_pair w 65 128 [.ref 0, .int k, .int v] [.ref 200, .int k, .int v] := by
  obtain ⟨y, z, fk, B, t, h, K, Q, F, Y, n, N, TT, R, SN, c, hd, hM, ht, hB, hT, hh, hw, le, hs, o, ho⟩ := I
  have h200 := hM.c200
  obtain ⟨s0, s3, s4, s5, s6, s7, s9, s18, s19, s20, l10, l21, l22, RD, wt, er, rk, e1⟩ := hM
  have k1 := d_instrument hd hw.hn hw.n20 hw.hN hw.N8 (i := k) (v := v)
  have k2 := m_instrument (w := w) (TT := TT) (R := R) (RD := RD) (SN := SN) (wt := wt) (er := er) (rk := rk) (s0 := s0) (s2 := nI t) (s3 := s3) (s4 := s4) (s5 := s5) (s6 := s6) (s7 := s7) (s8 := fk) (s9 := s9) (s14 := nI h) (s18 := s18) (s19 := s19) (s20 := s20) (l10 := l10) (l21 := l21) (l22 := l22) (i := k) (v := v) (hw.congr le)
  have e : (if k < 0 then -1 else if k < nI N then (if v = 0 then Y 8 k.toNatClampNeg else if v = 1 then Y 9 k.toNatClampNeg else if v = 2 then Y 10 k.toNatClampNeg else if v = 3 then Y 11 k.toNatClampNeg else if v = 4 then ab_old Y n k.toNatClampNeg else -1) else -1) = (if k < 0 then -1 else if k < nI N then (if v = 0 then Yv R 8 k.toNatClampNeg else if v = 1 then Yv R 9 k.toNatClampNeg else if v = 2 then Yv R 10 k.toNatClampNeg else if v = 3 then Yv R 11 k.toNatClampNeg else if v = 4 then ab_old (Yv R) n k.toNatClampNeg else -1) else -1) := by
    by_cases h0 : k < 0
    · rw [if_pos h0, if_pos h0]
    · rw [if_neg h0, if_neg h0]
      by_cases h1 : k < nI N
      · have hn := hw.N8
        obtain ⟨j, hj, rfl⟩ := pm_ixN h0 h1 (by omega)
        rw [nI_clamp (by omega), le.h8 j hj, le.h9 j hj, le.h10 j hj, le.h11 j hj, le.old hj]
      · rw [if_neg h1, if_neg h1]
  rw [e] at k1
  exact ⟨_, _, _, k1, h200, (congrArg (pm_call _ _) e1).symm.trans k2, Iv_fin hd ht hB hT hh hw le hs ho⟩
/-- the text -/
theorem I_text (I : IV w) : pm_pair w 57 91 [.ref 0] [.ref 200] := by
  obtain ⟨y, z, fk, B, t, h, K, Q, F, Y, n, N, TT, R, SN, c, hd, hM, ht, hB, hT, hh, hw, le, hs, o, ho⟩ := I
  have h10 := hd.c10
  have h11 := hd.c11
  have hz : 48 < z := by have := hd.1; omega
  have hot : ∀ Y' n' N' r Y n N p, tz_otP c t Y n N p = .inr (Y', n', N', r) → ab_wf Y n N → p ≤ t → ab_wf Y' n' N' ∧ n' + N' = n + N + 1 := by
    intro Y' n' N' r Y n N p e hw hp
    obtain ⟨pl1, nx1, tk1, va1, -, hc⟩ := c_stepD (w := w) (Y := Y) (fk := 0) (fp := 0) (pl := 0) (tk := 0) (va := 0) hz h10 h11 hB ht hp
    rcases c_other (fk := 0) (fp := 0) hz h10 h11 hB ht hp hw hc with ⟨k, s, e', -⟩ | ⟨Y2, n2, N2, r2, e', -, hw', hn', -⟩
    · rw [e] at e'; cases e'
    · rw [e] at e'; cases e'; exact ⟨hw', hn'⟩
  have hq4 : ∀ Y' r Y p, tz_q4 c t 4 0 Y p = .inr (Y', r) → ab_wf Y 0 0 → p ≤ t → ab_wf Y' 0 0 := by
    intro Y' r Y p e hw hp
    rcases c_q4 hz h10 h11 hB ht 4 0 Y p 0 0 0 rfl hp hw with ⟨k, s, e', -⟩ | ⟨Y2, r2, e', -, hw', -⟩
    · rw [e] at e'; cases e'
    · rw [e] at e'; cases e'; exact hw'
  rcases d_text hd hB ht with ⟨k, s, Z, e, w', k1, hd', fr⟩ | ⟨Y', n', N', L, Z, e, hw', w', k1, hd', fr⟩
  · have hM1 := hM.of fr
    have h200 := hM1.c200
    obtain ⟨s0, s3, s4, s5, s6, s7, s9, s18, s19, s20, l10, l21, l22, RD, wt, er, rk, e1⟩ := hM1
    rcases m_text (w := w') (R := R) (RD := RD) (SN := SN) (wt := wt) (er := er) (rk := rk) (s0 := s0) (s3 := s3) (s4 := s4) (s5 := s5) (s6 := s6) (s7 := s7) (s8 := fk) (s9 := s9) (s14 := nI h) (s18 := s18) (s19 := s19) (s20 := s20) (l10 := l10) (l21 := l21) (l22 := l22) (Z := Z) hT ht hot hq4 with ⟨k', s', e', RD', x4, x5, x6, x7, x10, k2⟩ | ⟨Y2, n2, N2, L2, e', -⟩
    · rw [e] at e'
      cases e'
      exact ⟨_, _, _, k1, h200, (congrArg (pm_call _ _) e1).symm.trans k2, Iv_fin (t := 0) (c := c) hd' (by omega) (fun j hj => absurd hj (by omega)) (fun j hj => absurd hj (by omega)) hh hw le hs (by rw [fr _ (by omega)]; exact ho)⟩
    · rw [e] at e'; cases e'
  · have hM1 := hM.of fr
    have h200 := hM1.c200
    obtain ⟨s0, s3, s4, s5, s6, s7, s9, s18, s19, s20, l10, l21, l22, RD, wt, er, rk, e1⟩ := hM1
    rcases m_text (w := w') (R := R) (RD := RD) (SN := SN) (wt := wt) (er := er) (rk := rk) (s0 := s0) (s3 := s3) (s4 := s4) (s5 := s5) (s6 := s6) (s7 := s7) (s8 := fk) (s9 := s9) (s14 := nI h) (s18 := s18) (s19 := s19) (s20 := s20) (l10 := l10) (l21 := l21) (l22 := l22) (Z := Z) hT ht hot hq4 with ⟨k', s', e', -⟩ | ⟨Y2, n2, N2, L2, e', RD', x4, x5, x6, x7, x10, le', k2⟩
    · rw [e] at e'; cases e'
    · rw [e] at e'
      cases e'
      exact ⟨_, _, _, k1, h200, (congrArg (pm_call _ _) e1).symm.trans k2, Iv_fin (t := 0) (h := 0) (c := c) hd' (by omega) (fun j hj => absurd hj (by omega)) (fun j hj => absurd hj (by omega)) (by omega) hw' le' trivial (by rw [fr _ (by omega)]; exact ho)⟩
end PCC
