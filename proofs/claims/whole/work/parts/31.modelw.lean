/-! THE MODEL'S OWN WORLD (at 200), written -/
def ab_S (s0 s2 s3 s4 s5 s6 s7 s8 s9 s14 s18 s19 s20 : Int32) (k : Nat) : Int32 := match k with
  | 0 => s0
  | 2 => s2
  | 3 => s3
  | 4 => s4
  | 5 => s5
  | 6 => s6
  | 7 => s7
  | 8 => s8
  | 9 => s9
  | 14 => s14
  | 18 => s18
  | 19 => s19
  | _ => s20
def ab_Lg (l10 l21 l22 : Int64) (k : Nat) : Int64 := match k with
  | 10 => l10
  | 21 => l21
  | _ => l22
def pm_Mw (w : pm_H) (S : Nat → Int32) (L : Nat → Int64) (TT R RD SN : Nat → Int32) (wt er : Nat → Int64) (rk : Nat → Int32) : pm_H := fun k =>
  if k = 200 then some (pm_mc S L) else if k = 202 then some (.inl (0, 740, .inl TT)) else if k = 212 then some (.inl (0, 103, .inl R)) else if k = 213 then some (.inl (0, 103, .inl RD)) else if k = 214 then some (.inl (0, 1030, .inl SN))
  else if k = 216 then some (.inl (1, 8, .inr (.inl wt))) else if k = 217 then some (.inl (1, 8, .inr (.inl er))) else if k = 218 then some (.inl (0, 8, .inl rk)) else w k
section PMM
variable {w : pm_H} {S : Nat → Int32} {L : Nat → Int64} {TT R RD SN f : Nat → Int32} {wt er g : Nat → Int64} {rk : Nat → Int32} {s0 s2 s3 s4 s5 s6 s7 s8 s9 s14 s18 s19 s20 : Int32} {l10 l21 l22 : Int64}
theorem aS0 : ab_S s0 s2 s3 s4 s5 s6 s7 s8 s9 s14 s18 s19 s20 0 = s0 := rfl
theorem aS2 : ab_S s0 s2 s3 s4 s5 s6 s7 s8 s9 s14 s18 s19 s20 2 = s2 := rfl
theorem aS3 : ab_S s0 s2 s3 s4 s5 s6 s7 s8 s9 s14 s18 s19 s20 3 = s3 := rfl
theorem aS4 : ab_S s0 s2 s3 s4 s5 s6 s7 s8 s9 s14 s18 s19 s20 4 = s4 := rfl
theorem aS5 : ab_S s0 s2 s3 s4 s5 s6 s7 s8 s9 s14 s18 s19 s20 5 = s5 := rfl
theorem aS6 : ab_S s0 s2 s3 s4 s5 s6 s7 s8 s9 s14 s18 s19 s20 6 = s6 := rfl
theorem aS7 : ab_S s0 s2 s3 s4 s5 s6 s7 s8 s9 s14 s18 s19 s20 7 = s7 := rfl
theorem aS8 : ab_S s0 s2 s3 s4 s5 s6 s7 s8 s9 s14 s18 s19 s20 8 = s8 := rfl
theorem aS9 : ab_S s0 s2 s3 s4 s5 s6 s7 s8 s9 s14 s18 s19 s20 9 = s9 := rfl
theorem aS14 : ab_S s0 s2 s3 s4 s5 s6 s7 s8 s9 s14 s18 s19 s20 14 = s14 := rfl
theorem aS18 : ab_S s0 s2 s3 s4 s5 s6 s7 s8 s9 s14 s18 s19 s20 18 = s18 := rfl
theorem aS19 : ab_S s0 s2 s3 s4 s5 s6 s7 s8 s9 s14 s18 s19 s20 19 = s19 := rfl
theorem aS20 : ab_S s0 s2 s3 s4 s5 s6 s7 s8 s9 s14 s18 s19 s20 20 = s20 := rfl
theorem aL10 : ab_Lg l10 l21 l22 10 = l10 := rfl
theorem aL21 : ab_Lg l10 l21 l22 21 = l21 := rfl
theorem aL22 : ab_Lg l10 l21 l22 22 = l22 := rfl
theorem mw200 : pm_Mw w S L TT R RD SN wt er rk 200 = some (.inr (6, [.int (S 0), .ref 202, .int (S 2), .int (S 3), .int (S 4), .int (S 5), .int (S 6), .int (S 7), .int (S 8), .int (S 9), .long (L 10), .ref 212, .ref 213, .ref 214, .int (S 14), .ref 216, .ref 217, .ref 218, .int (S 18), .int (S 19), .int (S 20), .long (L 21), .long (L 22)])) := rfl
theorem mwm : pm_Mw w S L TT R RD SN wt er rk 200 = some (pm_mc S L) := rfl
theorem mw202 : pm_Mw w S L TT R RD SN wt er rk 202 = some (.inl (0, 740, .inl TT)) := rfl
theorem mw212 : pm_Mw w S L TT R RD SN wt er rk 212 = some (.inl (0, 103, .inl R)) := rfl
theorem mw213 : pm_Mw w S L TT R RD SN wt er rk 213 = some (.inl (0, 103, .inl RD)) := rfl
theorem mw214 : pm_Mw w S L TT R RD SN wt er rk 214 = some (.inl (0, 1030, .inl SN)) := rfl
theorem mw216 : pm_Mw w S L TT R RD SN wt er rk 216 = some (.inl (1, 8, .inr (.inl wt))) := rfl
theorem mw217 : pm_Mw w S L TT R RD SN wt er rk 217 = some (.inl (1, 8, .inr (.inl er))) := rfl
theorem mw218 : pm_Mw w S L TT R RD SN wt er rk 218 = some (.inl (0, 8, .inl rk)) := rfl
theorem mwo {k : Nat} (h : k < 200 ∨ 218 < k) : pm_Mw w S L TT R RD SN wt er rk k = w k := by
  unfold pm_Mw
  rw [if_neg (by omega), if_neg (by omega), if_neg (by omega), if_neg (by omega), if_neg (by omega), if_neg (by omega), if_neg (by omega), if_neg (by omega)]
theorem mu200 : pm_up (pm_Mw w S L TT R RD SN wt er rk) 200 (.inr (6, [.int s0, .ref 202, .int s2, .int s3, .int s4, .int s5, .int s6, .int s7, .int s8, .int s9, .long l10, .ref 212, .ref 213, .ref 214, .int s14, .ref 216, .ref 217, .ref 218, .int s18, .int s19, .int s20, .long l21, .long l22])) = pm_Mw w (ab_S s0 s2 s3 s4 s5 s6 s7 s8 s9 s14 s18 s19 s20) (ab_Lg l10 l21 l22) TT R RD SN wt er rk := by
  funext k; unfold pm_up pm_Mw
  by_cases h : k = 200
  · rw [if_pos h, if_pos h]; rfl
  · rw [if_neg h, if_neg h, if_neg h]
theorem mu202 : pm_up (pm_Mw w S L TT R RD SN wt er rk) 202 (.inl (0, 740, .inl f)) = pm_Mw w S L f R RD SN wt er rk := by
  funext k; unfold pm_up pm_Mw; by_cases h : k = 202
  · subst h; rfl
  · simp [h]
theorem mu212 : pm_up (pm_Mw w S L TT R RD SN wt er rk) 212 (.inl (0, 103, .inl f)) = pm_Mw w S L TT f RD SN wt er rk := by
  funext k; unfold pm_up pm_Mw; by_cases h : k = 212
  · subst h; rfl
  · simp [h]
theorem mu213 : pm_up (pm_Mw w S L TT R RD SN wt er rk) 213 (.inl (0, 103, .inl f)) = pm_Mw w S L TT R f SN wt er rk := by
  funext k; unfold pm_up pm_Mw; by_cases h : k = 213
  · subst h; rfl
  · simp [h]
theorem mu214 : pm_up (pm_Mw w S L TT R RD SN wt er rk) 214 (.inl (0, 1030, .inl f)) = pm_Mw w S L TT R RD f wt er rk := by
  funext k; unfold pm_up pm_Mw; by_cases h : k = 214
  · subst h; rfl
  · simp [h]
theorem mu216 : pm_up (pm_Mw w S L TT R RD SN wt er rk) 216 (.inl (1, 8, .inr (.inl g))) = pm_Mw w S L TT R RD SN g er rk := by
  funext k; unfold pm_up pm_Mw; by_cases h : k = 216
  · subst h; rfl
  · simp [h]
theorem mu217 : pm_up (pm_Mw w S L TT R RD SN wt er rk) 217 (.inl (1, 8, .inr (.inl g))) = pm_Mw w S L TT R RD SN wt g rk := by
  funext k; unfold pm_up pm_Mw; by_cases h : k = 217
  · subst h; rfl
  · simp [h]
theorem mu218 : pm_up (pm_Mw w S L TT R RD SN wt er rk) 218 (.inl (0, 8, .inl f)) = pm_Mw w S L TT R RD SN wt er f := by
  funext k; unfold pm_up pm_Mw; by_cases h : k = 218
  · subst h; rfl
  · simp [h]
theorem ab_S_e : ab_S (S 0) (S 2) (S 3) (S 4) (S 5) (S 6) (S 7) (S 8) (S 9) (S 14) (S 18) (S 19) (S 20) = fun k => if k = 0 ∨ k = 2 ∨ k = 3 ∨ k = 4 ∨ k = 5 ∨ k = 6 ∨ k = 7 ∨ k = 8 ∨ k = 9 ∨ k = 14 ∨ k = 18 ∨ k = 19 then S k else S 20 := by
  funext k
  unfold ab_S
  split <;> simp_all
theorem m_isAhead {i j : Nat} (hi : i < 8) (hj : j < i) : pm_call 145 [.ref 200, .int (nI i), .int (nI j)] (pm_Mw w S L TT R RD SN wt er rk) = some (some (.int (if er i * wt j < er j * wt i then 1 else 0)), pm_Mw w S L TT R RD SN wt er rk) := by
  have h1 : vp_in (nI i) 8 := vp_in_nI hi (by omega)
  have h2 : vp_in (nI j) 8 := vp_in_nI (by omega) (by omega)
  simp only [pe145, z145_0, z145_1, z145_4, z145_5, z145_6, z145_7, z145_10, z145_11, z145_12, z145_13, z145_14, z145_15, z145_18, z145_19, z145_20, z145_21, z145_24, z145_25, z145_26, z145_27, z145_29, z145_30, z145_32, z145_33, z145_36, z145_37, z145_39, z145_40, z145_43, z145_44, z145_47, z145_48, z145_51, z145_52, z145_53, z145_56, z145_57, z145_60, z145_61, pm_kv_some, pm_kw_some, pm_k_some, pm_k_void, pm_vc_some, pm_kl_some, pg6_0, pg6_1, pg6_2, pg6_3, pg6_4, pg6_5, pg6_6, pg6_7, pg6_8, pg6_9, pg6_10, pg6_11, pg6_12, pg6_13, pg6_14, pg6_15, pg6_16, pg6_17, pg6_18, pg6_19, pg6_20, pg6_21, pg6_22, mw200, mw216, mw217, pm_la_in h1, pm_la_in h2, nI_clamp (show i < 2 ^ 31 by omega), nI_clamp (show j < 2 ^ 31 by omega), pm_lc_lt, pm_lc_eq, pm_zr0, pm_zr1]
  by_cases e : er i * wt j = er j * wt i
  · rw [if_pos e, if_neg (nI_nlt (by omega) (by omega)), if_neg (by rw [e]; exact Int64.lt_irrefl)]
  · rw [if_neg e]
    split <;> rfl
/-- the inner loop of reckons: a rank is put in its place -/
theorem m_place {i : Nat} {x1 x2 bt : Int32} (hi : i < 8) : ∀ (t : Nat) (rk : Nat → Int32), t < 8 → (∀ s, s < t → ∃ j, j < i ∧ rk s = nI j) → ∃ x : Option Value, pm_ev 144 77 [some (.ref 200), some (.int x1), some (.int x2), some (.int bt), some (.int (nI i)), some (.int (nI t))] [] (pm_Mw w (ab_S s0 s2 s3 s4 s5 s6 s7 s8 s9 s14 s18 s19 s20) (ab_Lg l10 l21 l22) TT R RD SN wt er rk)
    = pm_ev 144 141 [some (.ref 200), some (.int x1), some (.int x2), some (.int bt), some (.int (nI i)), x] [] (pm_Mw w (ab_S s0 s2 s3 s4 s5 s6 s7 s8 s9 s14 (s18 + 1) s19 s20) (ab_Lg l10 l21 l22) TT R RD SN wt er (ab_shift (ab_lt wt er i) (ab_ltd wt er i) (nI i) t rk)) := by
  intro t
  induction t with
  | zero =>
    intro rk h8 hv
    refine ⟨some (.int (nI 0)), ?_⟩
    conv => lhs; simp only [z144_77, z144_79]
    rw [if_neg (by rw [nI_0]; exact Int32.lt_irrefl)]
    simp only [z144_122, z144_123, z144_126, z144_128, z144_130, z144_131, z144_132, z144_133, z144_136, z144_137, z144_138, pm_kv_some, pm_kw_some, pm_k_some, pm_k_void, pm_vc_some, pm_kl_some, pg6_0, pg6_1, pg6_2, pg6_3, pg6_4, pg6_5, pg6_6, pg6_7, pg6_8, pg6_9, pg6_10, pg6_11, pg6_12, pg6_13, pg6_14, pg6_15, pg6_16, pg6_17, pg6_18, pg6_19, pg6_20, pg6_21, pg6_22, pp6_0, pp6_2, pp6_3, pp6_4, pp6_5, pp6_6, pp6_7, pp6_8, pp6_9, pp6_10, pp6_14, pp6_18, pp6_19, pp6_20, pp6_21, pp6_22, mw200, mw218, aS0, aS2, aS3, aS4, aS5, aS6, aS7, aS8, aS9, aS14, aS18, aS19, aS20, aL10, aL21, aL22, pm_is_in (vp_in_nI (show 0 < 8 by omega) (by omega)), nI_clamp (show 0 < 2 ^ 31 by omega), mu218, mu200, ab_shift]
  | succ t ih =>
    intro rk h8 hv
    obtain ⟨j, hj, hjv⟩ := hv t (by omega)
    by_cases hl : er i * wt j < er j * wt i
    · obtain ⟨x, hx⟩ := ih (upd rk (t + 1) (rk t)) (by omega) (fun s hs => by
        obtain ⟨j2, h2, h3⟩ := hv s (by omega)
        exact ⟨j2, h2, by rw [pk_un (by omega)]; exact h3⟩)
      refine ⟨x, ?_⟩
      conv => lhs; simp only [z144_77, z144_79]
      rw [if_pos (by rw [← nI_0]; exact nI_lt (by omega) (by omega))]
      simp only [z144_82, z144_83, z144_85, z144_86, z144_89, z144_91, z144_92, z144_93, z144_94, z144_97, pm_kv_some, pm_kw_some, pm_k_some, pm_k_void, pm_vc_some, pm_kl_some, pg6_0, pg6_1, pg6_2, pg6_3, pg6_4, pg6_5, pg6_6, pg6_7, pg6_8, pg6_9, pg6_10, pg6_11, pg6_12, pg6_13, pg6_14, pg6_15, pg6_16, pg6_17, pg6_18, pg6_19, pg6_20, pg6_21, pg6_22, mw200, mw218, aS0, aS2, aS3, aS4, aS5, aS6, aS7, aS8, aS9, aS14, aS18, aS19, aS20, aL10, aL21, aL22, nI_pred, pm_ia_in (vp_in_nI (show t < 8 by omega) (by omega)), nI_clamp (show t < 2 ^ 31 by omega), hjv, m_isAhead hi hj, pm_b0]
      rw [if_neg (show ¬ ¬ er i * wt j < er j * wt i from fun z => z hl)]
      simp only [z144_100, z144_101, z144_104, z144_106, z144_107, z144_110, z144_112, z144_113, z144_114, z144_115, z144_116, z144_119, pm_kv_some, pm_kw_some, pm_k_some, pm_k_void, pm_vc_some, pm_kl_some, pg6_0, pg6_1, pg6_2, pg6_3, pg6_4, pg6_5, pg6_6, pg6_7, pg6_8, pg6_9, pg6_10, pg6_11, pg6_12, pg6_13, pg6_14, pg6_15, pg6_16, pg6_17, pg6_18, pg6_19, pg6_20, pg6_21, pg6_22, mw200, mw218, aS0, aS2, aS3, aS4, aS5, aS6, aS7, aS8, aS9, aS14, aS18, aS19, aS20, aL10, aL21, aL22, nI_pred, pm_ia_in (vp_in_nI (show t < 8 by omega) (by omega)), nI_clamp (show t < 2 ^ 31 by omega), pm_is_in (vp_in_nI (show t + 1 < 8 by omega) (by omega)), nI_clamp (show t + 1 < 2 ^ 31 by omega), mu218, pk_m1]
      rw [hx]
      conv => rhs; unfold ab_shift
      rw [if_pos (show ab_lt wt er i (rk t).toNatClampNeg by rw [hjv, nI_clamp (show j < 2 ^ 31 by omega)]; exact hl)]
    · refine ⟨some (.int (nI (t + 1))), ?_⟩
      conv => lhs; simp only [z144_77, z144_79]
      rw [if_pos (by rw [← nI_0]; exact nI_lt (by omega) (by omega))]
      simp only [z144_82, z144_83, z144_85, z144_86, z144_89, z144_91, z144_92, z144_93, z144_94, z144_97, pm_kv_some, pm_kw_some, pm_k_some, pm_k_void, pm_vc_some, pm_kl_some, pg6_0, pg6_1, pg6_2, pg6_3, pg6_4, pg6_5, pg6_6, pg6_7, pg6_8, pg6_9, pg6_10, pg6_11, pg6_12, pg6_13, pg6_14, pg6_15, pg6_16, pg6_17, pg6_18, pg6_19, pg6_20, pg6_21, pg6_22, mw200, mw218, aS0, aS2, aS3, aS4, aS5, aS6, aS7, aS8, aS9, aS14, aS18, aS19, aS20, aL10, aL21, aL22, nI_pred, pm_ia_in (vp_in_nI (show t < 8 by omega) (by omega)), nI_clamp (show t < 2 ^ 31 by omega), hjv, m_isAhead hi hj, pm_b0]
      rw [if_pos hl]
      simp only [z144_122, z144_123, z144_126, z144_128, z144_130, z144_131, z144_132, z144_133, z144_136, z144_137, z144_138, pm_kv_some, pm_kw_some, pm_k_some, pm_k_void, pm_vc_some, pm_kl_some, pg6_0, pg6_1, pg6_2, pg6_3, pg6_4, pg6_5, pg6_6, pg6_7, pg6_8, pg6_9, pg6_10, pg6_11, pg6_12, pg6_13, pg6_14, pg6_15, pg6_16, pg6_17, pg6_18, pg6_19, pg6_20, pg6_21, pg6_22, pp6_0, pp6_2, pp6_3, pp6_4, pp6_5, pp6_6, pp6_7, pp6_8, pp6_9, pp6_10, pp6_14, pp6_18, pp6_19, pp6_20, pp6_21, pp6_22, mw200, mw218, aS0, aS2, aS3, aS4, aS5, aS6, aS7, aS8, aS9, aS14, aS18, aS19, aS20, aL10, aL21, aL22, pm_is_in (vp_in_nI (show t + 1 < 8 by omega) (by omega)), nI_clamp (show t + 1 < 2 ^ 31 by omega), mu218, mu200]
      conv => rhs; unfold ab_shift
      rw [if_neg (show ¬ ab_lt wt er i (rk t).toNatClampNeg by rw [hjv, nI_clamp (show j < 2 ^ 31 by omega)]; exact hl)]
/-- the outer loop of reckons: weights, earnings and ranks of the first N instruments -/
theorem m_rk_loop {n N a b : Nat} {bt : Int32} (hn : R 9 = nI n) (h20 : n ≤ 20) (hN : R 70 = nI N) (h8 : N ≤ 8) (hab : a ≤ b) (hb : b < 4) (hD : ∀ i, i < N → Yv R 9 i < 2147483647) (hd : ∀ k, k < n → ¬ 359 < Yv R 5 k) (hp : ∀ i q, i < N → q < 4 → 0 < ab_pr (Yv R) n i q - Yv R 11 i → ¬ (ab_pr (Yv R) n i q).toInt64 = 0) (hnn : ∀ i, i < N → ¬ ab_awM (Yv R) n i a b = 0 → 0 < ab_awM (Yv R) n i a b) :
    ∀ (m i : Nat) (wt er : Nat → Int64) (rk : Nat → Int32) (x : Option Value), i + m = N → ab_rep rk (ab_cl (fun i => ab_awM (Yv R) n i a b) (fun i => ab_ae (Yv R) i a b) bt i) → (∀ j, j < i → wt j = ab_awM (Yv R) n j a b ∧ er j = ab_ae (Yv R) j a b) → ∃ (wt' er' : Nat → Int64) (rk' : Nat → Int32) (x' : Option Value),
      pm_ev 144 8 [some (.ref 200), some (.int (nI a)), some (.int (nI b)), some (.int bt), some (.int (nI i)), x] [] (pm_Mw w (ab_S s0 s2 s3 s4 s5 s6 s7 s8 s9 s14 (nI (ab_cl (fun i => ab_awM (Yv R) n i a b) (fun i => ab_ae (Yv R) i a b) bt i).length) s19 s20) (ab_Lg l10 l21 l22) TT R RD SN wt er rk)
      = pm_ev 144 147 [some (.ref 200), some (.int (nI a)), some (.int (nI b)), some (.int bt), some (.int (nI N)), x'] [] (pm_Mw w (ab_S s0 s2 s3 s4 s5 s6 s7 s8 s9 s14 (nI (ab_cl (fun i => ab_awM (Yv R) n i a b) (fun i => ab_ae (Yv R) i a b) bt N).length) s19 s20) (ab_Lg l10 l21 l22) TT R RD SN wt' er' rk')
      ∧ ab_rep rk' (ab_cl (fun i => ab_awM (Yv R) n i a b) (fun i => ab_ae (Yv R) i a b) bt N) ∧ ∀ j, j < N → wt' j = ab_awM (Yv R) n j a b ∧ er' j = ab_ae (Yv R) j a b := by
  intro m
  induction m with
  | zero =>
    intro i wt er rk x hi hr hj
    have : i = N := by omega
    subst this
    refine ⟨wt, er, rk, x, ?_, hr, hj⟩
    conv => lhs; simp only [z144_8, z144_10, z144_11, z144_14, z144_16, z144_17, pm_kv_some, pm_kw_some, pm_k_some, pm_k_void, pm_vc_some, pm_kl_some, pg6_0, pg6_1, pg6_2, pg6_3, pg6_4, pg6_5, pg6_6, pg6_7, pg6_8, pg6_9, pg6_10, pg6_11, pg6_12, pg6_13, pg6_14, pg6_15, pg6_16, pg6_17, pg6_18, pg6_19, pg6_20, pg6_21, pg6_22, mw200, mw212, aS0, aS2, aS3, aS4, aS5, aS6, aS7, aS8, aS9, aS14, aS18, aS19, aS20, aL10, aL21, aL22, pm_ia_in pm_in70, pm_cl70, hN]
    rw [if_neg (nI_nlt (by omega) (by omega))]
  | succ m ih =>
    intro i wt er rk x hi hr hj
    have h1 : vp_in (nI i) 8 := vp_in_nI (show i < 8 by omega) (by omega)
    have haw : ∀ (wt er : Nat → Int64) (rk : Nat → Int32) (S : Nat → Int32) (L : Nat → Int64), pm_call 138 [.ref 200, .int (nI i), .int (nI a), .int (nI b)] (pm_Mw w S L TT R RD SN wt er rk) = some (some (.long (ab_awM (Yv R) n i a b)), pm_Mw w S L TT R RD SN wt er rk) := fun _ _ _ _ _ => q_addsWeight mwm mw212 hn h20 (by omega) hab hb (hD i (by omega)) hd (fun q hq => hp i q (by omega) hq)
    have hae : ∀ (wt er : Nat → Int64) (rk : Nat → Int32) (S : Nat → Int32) (L : Nat → Int64), pm_call 136 [.ref 200, .int (nI i), .int (nI a), .int (nI b)] (pm_Mw w S L TT R RD SN wt er rk) = some (some (.long (ab_ae (Yv R) i a b)), pm_Mw w S L TT R RD SN wt er rk) := fun _ _ _ _ _ => q_addsEarnings mwm mw212 (by omega)
    have hj' : ∀ j, j < i + 1 → vp_updL wt i (ab_awM (Yv R) n i a b) j = ab_awM (Yv R) n j a b ∧ vp_updL er i (ab_ae (Yv R) i a b) j = ab_ae (Yv R) j a b := by
      intro j hji
      by_cases h : j = i
      · subst h; exact ⟨pk_uLs, pk_uLs⟩
      · rw [pk_uLn h, pk_uLn h]; exact hj j (by omega)
    have hlen := ab_cl_len (Wf := fun i => ab_awM (Yv R) n i a b) (Ef := fun i => ab_ae (Yv R) i a b) (lo := bt) i
    have first : pm_ev 144 8 [some (.ref 200), some (.int (nI a)), some (.int (nI b)), some (.int bt), some (.int (nI i)), x] [] (pm_Mw w (ab_S s0 s2 s3 s4 s5 s6 s7 s8 s9 s14 (nI (ab_cl (fun i => ab_awM (Yv R) n i a b) (fun i => ab_ae (Yv R) i a b) bt i).length) s19 s20) (ab_Lg l10 l21 l22) TT R RD SN wt er rk)
        = if nI i = bt then pm_ev 144 141 [some (.ref 200), some (.int (nI a)), some (.int (nI b)), some (.int bt), some (.int (nI i)), x] [] (pm_Mw w (ab_S s0 s2 s3 s4 s5 s6 s7 s8 s9 s14 (nI (ab_cl (fun i => ab_awM (Yv R) n i a b) (fun i => ab_ae (Yv R) i a b) bt i).length) s19 s20) (ab_Lg l10 l21 l22) TT R RD SN (vp_updL wt i (ab_awM (Yv R) n i a b)) (vp_updL er i (ab_ae (Yv R) i a b)) rk)
          else if ab_awM (Yv R) n i a b = 0 then pm_ev 144 141 [some (.ref 200), some (.int (nI a)), some (.int (nI b)), some (.int bt), some (.int (nI i)), x] [] (pm_Mw w (ab_S s0 s2 s3 s4 s5 s6 s7 s8 s9 s14 (nI (ab_cl (fun i => ab_awM (Yv R) n i a b) (fun i => ab_ae (Yv R) i a b) bt i).length) s19 s20) (ab_Lg l10 l21 l22) TT R RD SN (vp_updL wt i (ab_awM (Yv R) n i a b)) (vp_updL er i (ab_ae (Yv R) i a b)) rk)
          else pm_ev 144 77 [some (.ref 200), some (.int (nI a)), some (.int (nI b)), some (.int bt), some (.int (nI i)), some (.int (nI (ab_cl (fun i => ab_awM (Yv R) n i a b) (fun i => ab_ae (Yv R) i a b) bt i).length))] [] (pm_Mw w (ab_S s0 s2 s3 s4 s5 s6 s7 s8 s9 s14 (nI (ab_cl (fun i => ab_awM (Yv R) n i a b) (fun i => ab_ae (Yv R) i a b) bt i).length) s19 s20) (ab_Lg l10 l21 l22) TT R RD SN (vp_updL wt i (ab_awM (Yv R) n i a b)) (vp_updL er i (ab_ae (Yv R) i a b)) rk) := by
      conv => lhs; simp only [z144_8, z144_10, z144_11, z144_14, z144_16, z144_17, pm_kv_some, pm_kw_some, pm_k_some, pm_k_void, pm_vc_some, pm_kl_some, pg6_0, pg6_1, pg6_2, pg6_3, pg6_4, pg6_5, pg6_6, pg6_7, pg6_8, pg6_9, pg6_10, pg6_11, pg6_12, pg6_13, pg6_14, pg6_15, pg6_16, pg6_17, pg6_18, pg6_19, pg6_20, pg6_21, pg6_22, mw200, mw212, aS0, aS2, aS3, aS4, aS5, aS6, aS7, aS8, aS9, aS14, aS18, aS19, aS20, aL10, aL21, aL22, pm_ia_in pm_in70, pm_cl70, hN]
      rw [if_pos (nI_lt (by omega) (by omega))]
      simp only [z144_20, z144_21, z144_24, z144_26, z144_27, z144_29, z144_30, z144_31, z144_34, z144_35, z144_36, z144_39, z144_41, z144_42, z144_44, z144_45, z144_46, z144_49, z144_50, z144_52, z144_53, z144_56, z144_57, z144_60, z144_62, z144_63, z144_64, z144_65, z144_68, z144_71, z144_72, z144_75, pm_kv_some, pm_kw_some, pm_k_some, pm_k_void, pm_vc_some, pm_kl_some, pg6_0, pg6_1, pg6_2, pg6_3, pg6_4, pg6_5, pg6_6, pg6_7, pg6_8, pg6_9, pg6_10, pg6_11, pg6_12, pg6_13, pg6_14, pg6_15, pg6_16, pg6_17, pg6_18, pg6_19, pg6_20, pg6_21, pg6_22, mw200, mw216, mw217, aS0, aS2, aS3, aS4, aS5, aS6, aS7, aS8, aS9, aS14, aS18, aS19, aS20, aL10, aL21, aL22, haw, hae, pm_ls_in h1, pm_la_in h1, nI_clamp (show i < 2 ^ 31 by omega), mu216, mu217, pk_uLs, pm_lc_eq]
    rw [first]
    by_cases hc : ¬ nI i = bt ∧ 0 < ab_awM (Yv R) n i a b
    · have e : ab_cl (fun i => ab_awM (Yv R) n i a b) (fun i => ab_ae (Yv R) i a b) bt (i + 1) = ab_ins (ab_lt (fun i => ab_awM (Yv R) n i a b) (fun i => ab_ae (Yv R) i a b) i) (ab_ltd _ _ i) i (ab_cl (fun i => ab_awM (Yv R) n i a b) (fun i => ab_ae (Yv R) i a b) bt i) := by
        conv => lhs; unfold ab_cl
        rw [if_pos hc]
      have hval : ∀ s, s < (ab_cl (fun i => ab_awM (Yv R) n i a b) (fun i => ab_ae (Yv R) i a b) bt i).length → ∃ j, j < i ∧ rk s = nI j := by
        intro s hs
        have q := ab_rep_rpf _ hr s (by rw [List.length_reverse]; exact hs)
        refine ⟨_, ?_, q.1⟩
        rw [List.getD_eq_getElem?_getD, List.getElem?_eq_getElem (by rw [List.length_reverse]; exact hs)]
        exact (ab_cl_lt _ _ (List.mem_reverse.mp (List.getElem_mem _))).1
      obtain ⟨x2, hx2⟩ := m_place (w := w) (x1 := nI a) (x2 := nI b) (bt := bt) (TT := TT) (R := R) (RD := RD) (SN := SN) (wt := vp_updL wt i (ab_awM (Yv R) n i a b)) (er := vp_updL er i (ab_ae (Yv R) i a b)) (s0 := s0) (s2 := s2) (s3 := s3) (s4 := s4) (s5 := s5) (s6 := s6) (s7 := s7) (s8 := s8) (s9 := s9) (s14 := s14) (s18 := nI (ab_cl (fun i => ab_awM (Yv R) n i a b) (fun i => ab_ae (Yv R) i a b) bt i).length) (s19 := s19) (s20 := s20) (l10 := l10) (l21 := l21) (l22 := l22) (show i < 8 by omega) (ab_cl (fun i => ab_awM (Yv R) n i a b) (fun i => ab_ae (Yv R) i a b) bt i).length rk (by omega) hval
      rw [if_neg hc.1, if_neg (pm_pos_ne hc.2), hx2]
      simp only [z144_141, z144_144, nI_1]
      have hrep : ab_rep (ab_shift (ab_lt (vp_updL wt i (ab_awM (Yv R) n i a b)) (vp_updL er i (ab_ae (Yv R) i a b)) i) (ab_ltd _ _ i) (nI i) (ab_cl (fun i => ab_awM (Yv R) n i a b) (fun i => ab_ae (Yv R) i a b) bt i).length rk) (ab_cl (fun i => ab_awM (Yv R) n i a b) (fun i => ab_ae (Yv R) i a b) bt (i + 1)) := by
        rw [e]
        refine ab_shift_rep (by omega) _ _ hr (fun j hj2 => ?_)
        have hlt := (ab_cl_lt _ _ hj2).1
        unfold ab_lt
        rw [(hj' i (by omega)).1, (hj' i (by omega)).2, (hj' j (by omega)).1, (hj' j (by omega)).2]
      have hl2 : (ab_cl (fun i => ab_awM (Yv R) n i a b) (fun i => ab_ae (Yv R) i a b) bt i).length + 1 = (ab_cl (fun i => ab_awM (Yv R) n i a b) (fun i => ab_ae (Yv R) i a b) bt (i + 1)).length := by rw [e, ab_ins_len]
      rw [hl2]
      exact ih (i + 1) _ _ _ _ (by omega) hrep hj'
    · have e : ab_cl (fun i => ab_awM (Yv R) n i a b) (fun i => ab_ae (Yv R) i a b) bt (i + 1) = ab_cl (fun i => ab_awM (Yv R) n i a b) (fun i => ab_ae (Yv R) i a b) bt i := by
        conv => lhs; unfold ab_cl
        rw [if_neg hc]
      have hgo : pm_ev 144 141 [some (.ref 200), some (.int (nI a)), some (.int (nI b)), some (.int bt), some (.int (nI i)), x] [] (pm_Mw w (ab_S s0 s2 s3 s4 s5 s6 s7 s8 s9 s14 (nI (ab_cl (fun i => ab_awM (Yv R) n i a b) (fun i => ab_ae (Yv R) i a b) bt i).length) s19 s20) (ab_Lg l10 l21 l22) TT R RD SN (vp_updL wt i (ab_awM (Yv R) n i a b)) (vp_updL er i (ab_ae (Yv R) i a b)) rk) = pm_ev 144 8 [some (.ref 200), some (.int (nI a)), some (.int (nI b)), some (.int bt), some (.int (nI (i + 1))), x] [] (pm_Mw w (ab_S s0 s2 s3 s4 s5 s6 s7 s8 s9 s14 (nI (ab_cl (fun i => ab_awM (Yv R) n i a b) (fun i => ab_ae (Yv R) i a b) bt i).length) s19 s20) (ab_Lg l10 l21 l22) TT R RD SN (vp_updL wt i (ab_awM (Yv R) n i a b)) (vp_updL er i (ab_ae (Yv R) i a b)) rk) := by
        conv => lhs; simp only [z144_141, z144_144, nI_1]
      have hsel : (if nI i = bt then pm_ev 144 141 [some (.ref 200), some (.int (nI a)), some (.int (nI b)), some (.int bt), some (.int (nI i)), x] [] (pm_Mw w (ab_S s0 s2 s3 s4 s5 s6 s7 s8 s9 s14 (nI (ab_cl (fun i => ab_awM (Yv R) n i a b) (fun i => ab_ae (Yv R) i a b) bt i).length) s19 s20) (ab_Lg l10 l21 l22) TT R RD SN (vp_updL wt i (ab_awM (Yv R) n i a b)) (vp_updL er i (ab_ae (Yv R) i a b)) rk)
          else if ab_awM (Yv R) n i a b = 0 then pm_ev 144 141 [some (.ref 200), some (.int (nI a)), some (.int (nI b)), some (.int bt), some (.int (nI i)), x] [] (pm_Mw w (ab_S s0 s2 s3 s4 s5 s6 s7 s8 s9 s14 (nI (ab_cl (fun i => ab_awM (Yv R) n i a b) (fun i => ab_ae (Yv R) i a b) bt i).length) s19 s20) (ab_Lg l10 l21 l22) TT R RD SN (vp_updL wt i (ab_awM (Yv R) n i a b)) (vp_updL er i (ab_ae (Yv R) i a b)) rk)
          else pm_ev 144 77 [some (.ref 200), some (.int (nI a)), some (.int (nI b)), some (.int bt), some (.int (nI i)), some (.int (nI (ab_cl (fun i => ab_awM (Yv R) n i a b) (fun i => ab_ae (Yv R) i a b) bt i).length))] [] (pm_Mw w (ab_S s0 s2 s3 s4 s5 s6 s7 s8 s9 s14 (nI (ab_cl (fun i => ab_awM (Yv R) n i a b) (fun i => ab_ae (Yv R) i a b) bt i).length) s19 s20) (ab_Lg l10 l21 l22) TT R RD SN (vp_updL wt i (ab_awM (Yv R) n i a b)) (vp_updL er i (ab_ae (Yv R) i a b)) rk)) = pm_ev 144 141 [some (.ref 200), some (.int (nI a)), some (.int (nI b)), some (.int bt), some (.int (nI i)), x] [] (pm_Mw w (ab_S s0 s2 s3 s4 s5 s6 s7 s8 s9 s14 (nI (ab_cl (fun i => ab_awM (Yv R) n i a b) (fun i => ab_ae (Yv R) i a b) bt i).length) s19 s20) (ab_Lg l10 l21 l22) TT R RD SN (vp_updL wt i (ab_awM (Yv R) n i a b)) (vp_updL er i (ab_ae (Yv R) i a b)) rk) := by
        by_cases h1 : nI i = bt
        · rw [if_pos h1]
        · rw [if_neg h1, if_pos (Classical.byContradiction fun h2 => hc ⟨h1, hnn i (by omega) h2⟩)]
      rw [hsel, hgo]
      have := ih (i + 1) (vp_updL wt i (ab_awM (Yv R) n i a b)) (vp_updL er i (ab_ae (Yv R) i a b)) rk x (by omega) (by rw [e]; exact hr) hj'
      rw [e] at this
      exact this
end PMM
