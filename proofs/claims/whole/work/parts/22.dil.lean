/-! THE DILUTION (class 0, at 40) -/
theorem pm_Yr_of {w w' : pm_H} {y : Nat} {Y : Nat → Nat → Int32} (h : pm_Yr w y Y) (hq : ∀ k, y ≤ k → k ≤ y + 12 → w' k = w k) : pm_Yr w' y Y := by
  obtain ⟨h0, h1, h2, h4, h5, h6, h8, h9, h10, h11⟩ := h
  refine ⟨?_, ?_, ?_, ?_, ?_, ?_, ?_, ?_, ?_, ?_⟩ <;> (rw [hq _ (by omega) (by omega)]; assumption)
def pm_Dw (w : pm_H) (rk : Nat → Int32) (rc st en : Int32) (tw te pf : Nat → Int64) (ca : Nat → Int32) (cc rd : Int32) (bw be : Int64) : pm_H := fun k =>
  if k = 40 then some (.inr (0, [.ref 41, .int rc, .int st, .int en, .ref 45, .ref 46, .ref 47, .ref 48, .int cc, .int rd, .long bw, .long be]))
  else if k = 41 then some (.inl (0, 8, .inl rk)) else if k = 45 then some (.inl (1, 8, .inr (.inl tw))) else if k = 46 then some (.inl (1, 8, .inr (.inl te)))
  else if k = 47 then some (.inl (1, 8, .inr (.inl pf))) else if k = 48 then some (.inl (0, 8, .inl ca)) else w k
section PMD
variable {w : pm_H} {rk rk' ca ca' : Nat → Int32} {rc st en cc rd rc' st' en' cc' rd' : Int32} {tw te pf tw' te' pf' : Nat → Int64} {bw be bw' be' : Int64}
theorem dw40 : pm_Dw w rk rc st en tw te pf ca cc rd bw be 40 = some (.inr (0, [.ref 41, .int rc, .int st, .int en, .ref 45, .ref 46, .ref 47, .ref 48, .int cc, .int rd, .long bw, .long be])) := rfl
theorem dw41 : pm_Dw w rk rc st en tw te pf ca cc rd bw be 41 = some (.inl (0, 8, .inl rk)) := rfl
theorem dw45 : pm_Dw w rk rc st en tw te pf ca cc rd bw be 45 = some (.inl (1, 8, .inr (.inl tw))) := rfl
theorem dw46 : pm_Dw w rk rc st en tw te pf ca cc rd bw be 46 = some (.inl (1, 8, .inr (.inl te))) := rfl
theorem dw47 : pm_Dw w rk rc st en tw te pf ca cc rd bw be 47 = some (.inl (1, 8, .inr (.inl pf))) := rfl
theorem dw48 : pm_Dw w rk rc st en tw te pf ca cc rd bw be 48 = some (.inl (0, 8, .inl ca)) := rfl
theorem dwo {k : Nat} (h : k < 40 ∨ 48 < k) : pm_Dw w rk rc st en tw te pf ca cc rd bw be k = w k := by
  unfold pm_Dw
  rw [if_neg (by omega), if_neg (by omega), if_neg (by omega), if_neg (by omega), if_neg (by omega), if_neg (by omega)]
theorem du40 : pm_up (pm_Dw w rk rc st en tw te pf ca cc rd bw be) 40 (.inr (0, [.ref 41, .int rc', .int st', .int en', .ref 45, .ref 46, .ref 47, .ref 48, .int cc', .int rd', .long bw', .long be'])) = pm_Dw w rk rc' st' en' tw te pf ca cc' rd' bw' be' := by
  funext k
  unfold pm_up pm_Dw
  by_cases h : k = 40 <;> simp [h]
theorem du41 : pm_up (pm_Dw w rk rc st en tw te pf ca cc rd bw be) 41 (.inl (0, 8, .inl rk')) = pm_Dw w rk' rc st en tw te pf ca cc rd bw be := by
  funext k
  unfold pm_up pm_Dw
  by_cases h : k = 41
  · subst h; rfl
  · simp [h]
theorem du45 : pm_up (pm_Dw w rk rc st en tw te pf ca cc rd bw be) 45 (.inl (1, 8, .inr (.inl tw'))) = pm_Dw w rk rc st en tw' te pf ca cc rd bw be := by
  funext k
  unfold pm_up pm_Dw
  by_cases h : k = 45
  · subst h; rfl
  · simp [h]
theorem du46 : pm_up (pm_Dw w rk rc st en tw te pf ca cc rd bw be) 46 (.inl (1, 8, .inr (.inl te'))) = pm_Dw w rk rc st en tw te' pf ca cc rd bw be := by
  funext k
  unfold pm_up pm_Dw
  by_cases h : k = 46
  · subst h; rfl
  · simp [h]
theorem du47 : pm_up (pm_Dw w rk rc st en tw te pf ca cc rd bw be) 47 (.inl (1, 8, .inr (.inl pf'))) = pm_Dw w rk rc st en tw te pf' ca cc rd bw be := by
  funext k
  unfold pm_up pm_Dw
  by_cases h : k = 47
  · subst h; rfl
  · simp [h]
theorem du48 : pm_up (pm_Dw w rk rc st en tw te pf ca cc rd bw be) 48 (.inl (0, 8, .inl ca')) = pm_Dw w rk rc st en tw te pf ca' cc rd bw be := by
  funext k
  unfold pm_up pm_Dw
  by_cases h : k = 48
  · subst h; rfl
  · simp [h]
theorem dwY {y : Nat} {Y : Nat → Nat → Int32} (h : pm_Yr w y Y) (hy : 48 < y) : pm_Yr (pm_Dw w rk rc st en tw te pf ca cc rd bw be) y Y := pm_Yr_of h (fun k h1 h2 => dwo (by omega))
theorem q_harmsLess {i j : Nat} (hi : i < 8) (hj : j < 8) : pm_call 3 [.ref 40, .int (nI i), .int (nI j)] (pm_Dw w rk rc st en tw te pf ca cc rd bw be) = some (some (.int (if te i * tw j < te j * tw i then 1 else 0)), pm_Dw w rk rc st en tw te pf ca cc rd bw be) := by
  have h1 : vp_in (nI i) 8 := vp_in_nI hi (by omega)
  have h2 : vp_in (nI j) 8 := vp_in_nI hj (by omega)
  simp only [pe3, z3_0, z3_1, z3_4, z3_5, z3_6, z3_7, z3_10, z3_11, z3_12, z3_13, z3_14, z3_17, z3_18, z3_19, z3_20, z3_23, z3_24, z3_25, z3_26, z3_27, z3_30, z3_31, z3_34, z3_35, pm_kv_some, pm_kw_some, pm_k_some, pm_k_void, pm_vc_some, pm_kl_some, pg0_0, pg0_1, pg0_2, pg0_3, pg0_4, pg0_5, pg0_6, pg0_7, pg0_8, pg0_9, pg0_10, pg0_11, dw40, dw45, dw46, pm_la_in h1, pm_la_in h2, nI_clamp (show i < 2 ^ 31 by omega), nI_clamp (show j < 2 ^ 31 by omega), pm_lc_lt, pm_zr0, pm_zr1]
  split <;> rfl
/-- an insertion from the end: lt says whether i goes ahead of the one at a place -/
def ab_shift (lt : Nat → Prop) (dec : ∀ j, Decidable (lt j)) (i : Int32) : Nat → (Nat → Int32) → Nat → Int32
  | 0, ca => upd ca 0 i
  | t + 1, ca => @ite _ (lt (ca t).toNatClampNeg) (dec _) (ab_shift lt dec i t (upd ca (t + 1) (ca t))) (upd ca (t + 1) i)
def ab_lt (tw te : Nat → Int64) (i j : Nat) : Prop := te i * tw j < te j * tw i
def ab_ltd (tw te : Nat → Int64) (i j : Nat) : Decidable (ab_lt tw te i j) := inferInstanceAs (Decidable (te i * tw j < te j * tw i))
def ab_val (f : Nat → Int32) (N : Nat) : Prop := ∀ t, t < N → ∃ j, j < 8 ∧ f t = nI j
theorem q_place_loop {i : Nat} (hi : i < 8) : ∀ (t : Nat) (ca : Nat → Int32), t < 8 → ab_val ca t → pm_ev 2 5 [some (.ref 40), some (.int (nI i)), some (.int (nI t))] [] (pm_Dw w rk rc st en tw te pf ca cc rd bw be) = some (none, pm_Dw w rk rc st en tw te pf (ab_shift (ab_lt tw te i) (ab_ltd tw te i) (nI i) t ca) (cc + 1) rd bw be) := by
  intro t
  induction t with
  | zero =>
    intro ca h8 hv
    simp only [z2_5, z2_6]
    rw [if_neg (by rw [nI_0]; exact Int32.lt_irrefl)]
    simp only [z2_45, z2_46, z2_49, z2_50, z2_51, z2_52, z2_53, z2_54, z2_57, z2_58, z2_59, z2_62, pm_kv_some, pm_kw_some, pm_k_some, pm_k_void, pm_vc_some, pm_kl_some, pg0_0, pg0_1, pg0_2, pg0_3, pg0_4, pg0_5, pg0_6, pg0_7, pg0_8, pg0_9, pg0_10, pg0_11, pp0_1, pp0_2, pp0_3, pp0_8, pp0_9, pp0_10, pp0_11, dw40, dw48, pm_is_in (vp_in_nI (show 0 < 8 by omega) (by omega)), nI_clamp (show 0 < 2 ^ 31 by omega), du48, du40, ab_shift]
  | succ t ih =>
    intro ca h8 hv
    obtain ⟨j, hj, hjv⟩ := hv t (by omega)
    simp only [z2_5, z2_6]
    rw [if_pos (by rw [← nI_0]; exact nI_lt (by omega) (by omega))]
    simp only [z2_9, z2_10, z2_11, z2_12, z2_15, z2_16, z2_17, z2_18, z2_19, z2_22, pm_kv_some, pm_kw_some, pm_k_some, pm_k_void, pm_vc_some, pm_kl_some, pg0_0, pg0_1, pg0_2, pg0_3, pg0_4, pg0_5, pg0_6, pg0_7, pg0_8, pg0_9, pg0_10, pg0_11, dw40, dw48, nI_pred, pm_ia_in (vp_in_nI (show t < 8 by omega) (by omega)), nI_clamp (show t < 2 ^ 31 by omega), hjv, q_harmsLess hi hj, pm_b0]
    by_cases hl : te i * tw j < te j * tw i
    · rw [if_neg (show ¬ ¬ te i * tw j < te j * tw i from fun z => z hl)]
      simp only [z2_25, z2_26, z2_29, z2_30, z2_31, z2_34, z2_35, z2_36, z2_37, z2_38, z2_39, z2_42, pm_kv_some, pm_kw_some, pm_k_some, pm_k_void, pm_vc_some, pm_kl_some, pg0_0, pg0_1, pg0_2, pg0_3, pg0_4, pg0_5, pg0_6, pg0_7, pg0_8, pg0_9, pg0_10, pg0_11, dw40, dw48, nI_pred, pm_ia_in (vp_in_nI (show t < 8 by omega) (by omega)), nI_clamp (show t < 2 ^ 31 by omega), pm_is_in (vp_in_nI (show t + 1 < 8 by omega) (by omega)), nI_clamp (show t + 1 < 2 ^ 31 by omega), du48, pk_m1]
      rw [ih _ (by omega) ?_]
      · conv => rhs; unfold ab_shift
        rw [if_pos (show ab_lt tw te i (ca t).toNatClampNeg by rw [hjv, nI_clamp (show j < 2 ^ 31 by omega)]; exact hl), hjv]
      · intro s hs
        obtain ⟨j2, h2, h3⟩ := hv s (by omega)
        refine ⟨j2, h2, ?_⟩
        rw [pk_un (by omega)]
        exact h3
    · rw [if_pos hl]
      simp only [z2_45, z2_46, z2_49, z2_50, z2_51, z2_52, z2_53, z2_54, z2_57, z2_58, z2_59, z2_62, pm_kv_some, pm_kw_some, pm_k_some, pm_k_void, pm_vc_some, pm_kl_some, pg0_0, pg0_1, pg0_2, pg0_3, pg0_4, pg0_5, pg0_6, pg0_7, pg0_8, pg0_9, pg0_10, pg0_11, pp0_1, pp0_2, pp0_3, pp0_8, pp0_9, pp0_10, pp0_11, dw40, dw48, pm_is_in (vp_in_nI (show t + 1 < 8 by omega) (by omega)), nI_clamp (show t + 1 < 2 ^ 31 by omega), du48, du40]
      conv => rhs; unfold ab_shift
      rw [if_neg (show ¬ ab_lt tw te i (ca t).toNatClampNeg by rw [hjv, nI_clamp (show j < 2 ^ 31 by omega)]; exact hl)]
theorem q_placeByHarm {i t : Nat} (hi : i < 8) (h8 : t < 8) (hv : ab_val ca t) : pm_call 2 [.ref 40, .int (nI i)] (pm_Dw w rk rc st en tw te pf ca (nI t) rd bw be) = some (none, pm_Dw w rk rc st en tw te pf (ab_shift (ab_lt tw te i) (ab_ltd tw te i) (nI i) t ca) (nI (t + 1)) rd bw be) := by
  simp only [pe2, z2_0, z2_1, z2_4, pm_kv_some, pm_kw_some, pm_k_some, pm_k_void, pm_vc_some, pm_kl_some, pg0_0, pg0_1, pg0_2, pg0_3, pg0_4, pg0_5, pg0_6, pg0_7, pg0_8, pg0_9, pg0_10, pg0_11, dw40]
  rw [q_place_loop hi t ca h8 hv, nI_1]
theorem ab_shift_val {lt : Nat → Prop} {dec : ∀ j, Decidable (lt j)} {i N : Nat} (hi : i < 8) : ∀ (t : Nat) (ca : Nat → Int32), t < N → (∀ s, s < N → s ≠ t → ∃ j, j < 8 ∧ ca s = nI j) → ab_val (ab_shift lt dec (nI i) t ca) N := by
  intro t
  induction t with
  | zero =>
    intro ca hN hv s hs
    show ∃ j, j < 8 ∧ upd ca 0 (nI i) s = nI j
    by_cases h : s = 0
    · subst h; exact ⟨i, hi, pk_us⟩
    · rw [pk_un h]; exact hv s hs h
  | succ t ih =>
    intro ca hN hv
    unfold ab_shift
    by_cases h : lt (ca t).toNatClampNeg
    · rw [if_pos h]
      refine ih _ (by omega) (fun s hs hst => ?_)
      by_cases h2 : s = t + 1
      · subst h2; rw [pk_us]; exact hv t (by omega) (by omega)
      · rw [pk_un h2]; exact hv s hs h2
    · rw [if_neg h]
      intro s hs
      by_cases h2 : s = t + 1
      · subst h2; rw [pk_us]; exact ⟨i, hi, rfl⟩
      · rw [pk_un h2]; exact hv s hs h2
/-- gathering: instruments i, i + 1, .. (m of them) with their weights, earnings, floors -/
def ab_ga (Wf Ef Ff : Nat → Int64) (lo : Int32) : Nat → Nat → (Nat → Int64) → (Nat → Int64) → (Nat → Int64) → (Nat → Int32) → Nat → (Nat → Int64) × (Nat → Int64) × (Nat → Int64) × (Nat → Int32) × Nat
  | 0, _, tw, te, pf, ca, t => (tw, te, pf, ca, t)
  | m + 1, i, tw, te, pf, ca, t => if ¬ nI i = lo ∧ 0 < Wf i then ab_ga Wf Ef Ff lo m (i + 1) (vp_updL tw i (Wf i)) (vp_updL te i (Ef i)) (vp_updL pf i (Ff i)) (ab_shift (ab_lt (vp_updL tw i (Wf i)) (vp_updL te i (Ef i)) i) (ab_ltd _ _ i) (nI i) t ca) (t + 1) else ab_ga Wf Ef Ff lo m (i + 1) (vp_updL tw i (Wf i)) (vp_updL te i (Ef i)) (vp_updL pf i (Ff i)) ca t
def ab_ff (Y : Nat → Nat → Int32) (i : Nat) : Int64 := if Y 8 i = 2 then (Y 11 i).toInt64 else -1000000000
theorem q_ga_loop {y n ic a b : Nat} {Y : Nat → Nat → Int32} {lo : Int32} (hY : pm_Yr w y Y) (hy : 48 < y) (hn : Y 3 0 = nI n) (h20 : n ≤ 20) (hic : Y 7 0 = nI ic) (h8 : ic ≤ 8) (hab : a ≤ b) (hb : b < 4) : ∀ (m i : Nat) (tw te pf : Nat → Int64) (ca : Nat → Int32) (t : Nat), i + m = ic → t ≤ i → ab_val ca t → pm_ev 1 30 [some (.ref 40), some (.ref y), some (.int (nI a)), some (.int (nI b)), some (.int lo), some (.int (nI i))] [] (pm_Dw w rk rc st en tw te pf ca (nI t) rd bw be)
    = some (none, pm_Dw w rk rc st en (ab_ga (fun i => ab_aw Y n i a b) (fun i => ab_ae Y i a b) (ab_ff Y) lo m i tw te pf ca t).1 (ab_ga (fun i => ab_aw Y n i a b) (fun i => ab_ae Y i a b) (ab_ff Y) lo m i tw te pf ca t).2.1 (ab_ga (fun i => ab_aw Y n i a b) (fun i => ab_ae Y i a b) (ab_ff Y) lo m i tw te pf ca t).2.2.1 (ab_ga (fun i => ab_aw Y n i a b) (fun i => ab_ae Y i a b) (ab_ff Y) lo m i tw te pf ca t).2.2.2.1 (nI (ab_ga (fun i => ab_aw Y n i a b) (fun i => ab_ae Y i a b) (ab_ff Y) lo m i tw te pf ca t).2.2.2.2) rd bw be) := by
  intro m
  induction m with
  | zero =>
    intro i tw te pf ca t him hti hv
    have hY' : pm_Yr (pm_Dw w rk rc st en tw te pf ca (nI t) rd bw be) y Y := dwY hY hy
    simp only [z1_30, z1_32, z1_33, z1_36, pm_kv_some, pm_kw_some, pm_k_some, pm_k_void, pm_vc_some, pm_kl_some, pg4_0, pg4_1, pg4_2, pg4_3, pg4_4, pg4_5, pg4_6, pg4_7, pg4_8, pg4_9, pg4_10, pg4_11, hY'.1, hic]
    rw [if_neg (nI_nlt (by omega) (by omega))]
    simp only [z1_113, ab_ga]
  | succ m ih =>
    intro i tw te pf ca t him hti hv
    have hYD : ∀ tw te pf : Nat → Int64, pm_Yr (pm_Dw w rk rc st en tw te pf ca (nI t) rd bw be) y Y := fun _ _ _ => dwY hY hy
    have h1 : vp_in (nI i) 8 := vp_in_nI (show i < 8 by omega) (by omega)
    have hpf : ∀ tw te pf : Nat → Int64, pm_call 50 [.ref y, .int (nI i)] (pm_Dw w rk rc st en tw te pf ca (nI t) rd bw be) = some (some (.long (ab_ff Y i)), pm_Dw w rk rc st en tw te pf ca (nI t) rd bw be) := fun _ _ _ => q_profitFloor (hYD _ _ _) (show i < 8 by omega)
    simp only [z1_30, z1_32, z1_33, z1_36, pm_kv_some, pm_kw_some, pm_k_some, pm_k_void, pm_vc_some, pm_kl_some, pg4_0, pg4_1, pg4_2, pg4_3, pg4_4, pg4_5, pg4_6, pg4_7, pg4_8, pg4_9, pg4_10, pg4_11, (hYD _ _ _).1, hic]
    rw [if_pos (nI_lt (by omega) (by omega))]
    simp only [z1_39, z1_40, z1_43, z1_45, z1_46, z1_48, z1_49, z1_50, z1_53, z1_54, z1_55, z1_58, z1_60, z1_61, z1_63, z1_64, z1_65, z1_68, z1_69, z1_70, z1_73, z1_75, z1_76, z1_78, z1_81, z1_82, z1_84, z1_86, pm_kv_some, pm_kw_some, pm_k_some, pm_k_void, pm_vc_some, pm_kl_some, pg0_0, pg0_1, pg0_2, pg0_3, pg0_4, pg0_5, pg0_6, pg0_7, pg0_8, pg0_9, pg0_10, pg0_11, dw40, dw45, dw46, dw47, (hYD _ _ _).1, q_addedToWeight (hYD _ _ _) hn h20 (show i < 8 by omega) hab hb, q_addedToEarnings (hYD _ _ _) (show i < 8 by omega), hpf, pm_ls_in h1, nI_clamp (show i < 2 ^ 31 by omega), du45, du46, du47, ab_ga]
    by_cases hlo : nI i = lo
    · rw [if_pos hlo, if_neg (fun z => z.1 hlo)]
      simp only [z1_107, z1_110, nI_1]
      exact ih _ _ _ _ _ _ (by omega) (by omega) hv
    · rw [if_neg hlo]
      simp only [z1_89, z1_90, z1_93, z1_95, z1_96, z1_97, z1_98, pm_kv_some, pm_kw_some, pm_k_some, pm_k_void, pm_vc_some, pm_kl_some, pg0_0, pg0_1, pg0_2, pg0_3, pg0_4, pg0_5, pg0_6, pg0_7, pg0_8, pg0_9, pg0_10, pg0_11, dw40, dw45, pm_la_in h1, nI_clamp (show i < 2 ^ 31 by omega), pm_lc_gt, pk_uLs]
      by_cases hp : 0 < ab_aw Y n i a b
      · rw [if_pos hp, if_pos ⟨hlo, hp⟩]
        simp only [z1_101, z1_102, z1_104, z1_107, z1_110, pm_kv_some, pm_kw_some, pm_k_some, pm_k_void, pm_vc_some, pm_kl_some, dw40, q_placeByHarm (show i < 8 by omega) (show t < 8 by omega) hv, nI_1]
        refine ih _ _ _ _ _ _ (by omega) (by omega) (ab_shift_val (by omega) t ca (by omega) (fun s hs hst => hv s (by omega)))
      · rw [if_neg hp, if_neg (fun z => hp z.2)]
        simp only [z1_107, z1_110, nI_1]
        exact ih _ _ _ _ _ _ (by omega) (by omega) hv
theorem q_gather {y n ic a b : Nat} {Y : Nat → Nat → Int32} {lo : Int32} (hY : pm_Yr w y Y) (hy : 48 < y) (hn : Y 3 0 = nI n) (h20 : n ≤ 20) (hic : Y 7 0 = nI ic) (h8 : ic ≤ 8) (hab : a ≤ b) (hb : b < 4) : pm_call 1 [.ref 40, .ref y, .int (nI a), .int (nI b), .int lo] (pm_Dw w rk rc st en tw te pf ca cc rd bw be)
    = some (none, pm_Dw w rk rc st en (ab_ga (fun i => ab_aw Y n i a b) (fun i => ab_ae Y i a b) (ab_ff Y) lo ic 0 tw te pf ca 0).1 (ab_ga (fun i => ab_aw Y n i a b) (fun i => ab_ae Y i a b) (ab_ff Y) lo ic 0 tw te pf ca 0).2.1 (ab_ga (fun i => ab_aw Y n i a b) (fun i => ab_ae Y i a b) (ab_ff Y) lo ic 0 tw te pf ca 0).2.2.1 (ab_ga (fun i => ab_aw Y n i a b) (fun i => ab_ae Y i a b) (ab_ff Y) lo ic 0 tw te pf ca 0).2.2.2.1 (nI (ab_ga (fun i => ab_aw Y n i a b) (fun i => ab_ae Y i a b) (ab_ff Y) lo ic 0 tw te pf ca 0).2.2.2.2) ((nI b - nI a + 1) * 90) (ab_wt Y n ((nI b + 1) * 90) n 0 (nI a * 90) 0) be) := by
  have hYD : ∀ (cc rd : Int32) (bw : Int64), pm_Yr (pm_Dw w rk rc st en tw te pf ca cc rd bw be) y Y := fun _ _ _ => dwY hY hy
  simp only [pe1, z1_0, z1_1, z1_2, z1_3, z1_4, z1_5, z1_6, z1_8, z1_9, z1_12, z1_13, z1_14, z1_15, z1_16, z1_19, z1_22, z1_23, z1_24, z1_27, z1_28, pm_kv_some, pm_kw_some, pm_k_some, pm_k_void, pm_vc_some, pm_kl_some, pp0_1, pp0_2, pp0_3, pp0_8, pp0_9, pp0_10, pp0_11, dw40, du40, (hYD _ _ _).1, q_weightOf (hYD _ _ _) hn h20]
  exact q_ga_loop hY hy hn h20 hic h8 hab hb ic 0 tw te pf ca 0 (by omega) (by omega) (fun t ht => absurd ht (by omega))
/-- filtering the candidates: those whose floor is reached -/
def ab_fl (pf : Nat → Int64) (re : Int64) (ca : Nat → Int32) : Nat → Nat → (Nat → Int32) → Nat → (Nat → Int32) × Nat
  | 0, _, rk, r => (rk, r)
  | m + 1, k, rk, r => if re < pf (ca k).toNatClampNeg then ab_fl pf re ca m (k + 1) rk r else ab_fl pf re ca m (k + 1) (upd rk r (ca k)) (r + 1)
theorem q_fl_loop {t : Nat} {be0 re : Int64} (h8 : t ≤ 8) (hv : ab_val ca t) : ∀ (m k : Nat) (rk : Nat → Int32) (r : Nat) (x : Option Value), k + m = t → r ≤ k → pm_ev 4 13 [some (.ref 40), some (.long be0), none, some (.long re), none, some (.int (nI k)), x] [] (pm_Dw w rk (nI r) st en tw te pf ca (nI t) rd bw be)
    = pm_ev 4 70 [some (.ref 40), some (.long be0), none, some (.long re), none, some (.int (nI t)), if t = k then x else some (.int (ca (t - 1)))] [] (pm_Dw w (ab_fl pf re ca m k rk r).1 (nI (ab_fl pf re ca m k rk r).2) st en tw te pf ca (nI t) rd bw be) := by
  intro m
  induction m with
  | zero =>
    intro k rk r x hk hr
    have hkt : t = k := by omega
    simp only [z4_13, z4_15, z4_16, z4_19, pm_kv_some, pm_kw_some, pm_k_some, pm_k_void, pm_vc_some, pm_kl_some, pg0_0, pg0_1, pg0_2, pg0_3, pg0_4, pg0_5, pg0_6, pg0_7, pg0_8, pg0_9, pg0_10, pg0_11, dw40]
    rw [if_neg (nI_nlt (by omega) (by omega)), if_pos hkt]
    simp only [ab_fl, hkt]
  | succ m ih =>
    intro k rk r x hk hr
    obtain ⟨j, hj, hjv⟩ := hv k (by omega)
    have hx : (if t = k then x else some (.int (ca (t - 1)))) = (if t = k + 1 then some (.int (ca k)) else some (.int (ca (t - 1)))) := by
      rw [if_neg (show ¬ t = k by omega)]
      by_cases h : t = k + 1
      · rw [if_pos h]; congr 3; omega
      · rw [if_neg h]
    rw [hx]
    simp only [z4_13, z4_15, z4_16, z4_19, pm_kv_some, pm_kw_some, pm_k_some, pm_k_void, pm_vc_some, pm_kl_some, pg0_0, pg0_1, pg0_2, pg0_3, pg0_4, pg0_5, pg0_6, pg0_7, pg0_8, pg0_9, pg0_10, pg0_11, dw40]
    rw [if_pos (nI_lt (by omega) (by omega))]
    simp only [z4_22, z4_23, z4_26, z4_28, z4_29, z4_31, z4_32, z4_35, z4_37, z4_38, z4_39, z4_40, pm_kv_some, pm_kw_some, pm_k_some, pm_k_void, pm_vc_some, pm_kl_some, pg0_0, pg0_1, pg0_2, pg0_3, pg0_4, pg0_5, pg0_6, pg0_7, pg0_8, pg0_9, pg0_10, pg0_11, dw40, dw47, dw48, pm_ia_in (vp_in_nI (show k < 8 by omega) (by omega)), nI_clamp (show k < 2 ^ 31 by omega), pm_la_in (show vp_in (ca k) 8 by rw [hjv]; exact vp_in_nI hj (by omega)), pm_lc_gt]
    by_cases hp : re < pf (ca k).toNatClampNeg
    · rw [if_pos hp]
      simp only [z4_64, z4_67, nI_1]
      rw [ih _ _ _ _ (by omega) (by omega)]
      simp only [ab_fl, if_pos hp, Nat.add_sub_cancel]
    · rw [if_neg hp]
      simp only [z4_43, z4_44, z4_47, z4_48, z4_51, z4_53, z4_54, z4_55, z4_56, z4_59, z4_60, z4_61, z4_64, z4_67, pm_kv_some, pm_kw_some, pm_k_some, pm_k_void, pm_vc_some, pm_kl_some, pg0_0, pg0_1, pg0_2, pg0_3, pg0_4, pg0_5, pg0_6, pg0_7, pg0_8, pg0_9, pg0_10, pg0_11, pp0_1, pp0_2, pp0_3, pp0_8, pp0_9, pp0_10, pp0_11, dw40, dw41, pm_is_in (vp_in_nI (show r < 8 by omega) (by omega)), nI_clamp (show r < 2 ^ 31 by omega), du41, du40, nI_1]
      rw [ih _ _ _ _ (by omega) (by omega)]
      simp only [ab_fl, if_neg hp, Nat.add_sub_cancel]
/-- taking in: set, the one that ended it, earnings and weight -/
def ab_ti (rk : Nat → Int32) (tw te : Nat → Int64) : Nat → Nat → Int64 → Int64 → Int32 → Int32 × Int32 × Int64 × Int64
  | 0, _, e, v, s => (s, -1, e, v)
  | m + 1, k, e, v, s => if (e + te (rk k).toNatClampNeg) * v < e * (v + tw (rk k).toNatClampNeg) then ab_ti rk tw te m (k + 1) (e + te (rk k).toNatClampNeg) (v + tw (rk k).toNatClampNeg) (s ||| (1 <<< (rk k &&& 31))) else (s, rk k, e, v)
theorem pm_nem1 {j : Nat} (h : j < 2 ^ 31) : ¬ nI j = -1 := fun z => nI_pos h (by rw [z]; decide)
theorem q_ti_loop {r : Nat} (h8 : r ≤ 8) (hv : ab_val rk r) : ∀ (m k : Nat) (e v : Int64) (s : Int32) (x y1 y2 z1 z2 : Option Value), k + m = r → pm_ev 5 23 [some (.ref 40), some (.long e), none, some (.long v), none, some (.int (nI k)), x, y1, y2, z1, z2] [] (pm_Dw w rk (nI r) s (-1) tw te pf ca cc rd bw be)
    = some (none, pm_Dw w rk (nI r) (ab_ti rk tw te m k e v s).1 (ab_ti rk tw te m k e v s).2.1 tw te pf ca cc rd bw be) := by
  intro m
  induction m with
  | zero =>
    intro k e v s x y1 y2 z1 z2 hk
    simp only [z5_23, z5_25, z5_26, z5_29, pm_kv_some, pm_kw_some, pm_k_some, pm_k_void, pm_vc_some, pm_kl_some, pg0_0, pg0_1, pg0_2, pg0_3, pg0_4, pg0_5, pg0_6, pg0_7, pg0_8, pg0_9, pg0_10, pg0_11, dw40]
    rw [if_neg (nI_nlt (by omega) (by omega))]
    simp only [z5_117, ab_ti]
  | succ m ih =>
    intro k e v s x y1 y2 z1 z2 hk
    obtain ⟨j, hj, hjv⟩ := hv k (by omega)
    have hin : vp_in (nI j) 8 := vp_in_nI hj (by omega)
    simp only [z5_23, z5_25, z5_26, z5_29, z5_32, z5_33, z5_36, z5_37, pm_kv_some, pm_kw_some, pm_k_some, pm_k_void, pm_vc_some, pm_kl_some, pg0_0, pg0_1, pg0_2, pg0_3, pg0_4, pg0_5, pg0_6, pg0_7, pg0_8, pg0_9, pg0_10, pg0_11, dw40]
    rw [if_pos (nI_lt (by omega) (by omega)), if_pos trivial]
    simp only [z5_40, z5_41, z5_44, z5_46, z5_47, z5_49, z5_50, z5_51, z5_54, z5_56, z5_57, z5_58, z5_60, z5_61, z5_62, z5_65, z5_67, z5_68, z5_69, z5_71, z5_73, z5_74, z5_75, z5_76, z5_78, z5_79, z5_80, pm_kv_some, pm_kw_some, pm_k_some, pm_k_void, pm_vc_some, pm_kl_some, pg0_0, pg0_1, pg0_2, pg0_3, pg0_4, pg0_5, pg0_6, pg0_7, pg0_8, pg0_9, pg0_10, pg0_11, dw40, dw41, dw45, dw46, pm_ia_in (vp_in_nI (show k < 8 by omega) (by omega)), nI_clamp (show k < 2 ^ 31 by omega), hjv, pm_la_in hin, nI_clamp (show j < 2 ^ 31 by omega), pm_lc_lt, ab_ti]
    by_cases hc : (e + te j) * v < e * (v + tw j)
    · rw [if_pos hc]
      simp only [if_pos hc, z5_83, z5_85, z5_86, z5_88, z5_89, z5_90, z5_91, z5_94, z5_95, z5_97, z5_98, z5_99, z5_102, z5_111, z5_114, pm_kv_some, pm_kw_some, pm_k_some, pm_k_void, pm_vc_some, pm_kl_some, pg0_0, pg0_1, pg0_2, pg0_3, pg0_4, pg0_5, pg0_6, pg0_7, pg0_8, pg0_9, pg0_10, pg0_11, pp0_1, pp0_2, pp0_3, pp0_8, pp0_9, pp0_10, pp0_11, dw40, du40, nI_1]
      exact ih _ _ _ _ _ _ _ _ _ (by omega)
    · rw [if_neg hc]
      simp only [if_neg hc, z5_105, z5_106, z5_108, z5_111, z5_114, pm_kv_some, pm_kw_some, pm_k_some, pm_k_void, pm_vc_some, pm_kl_some, pg0_0, pg0_1, pg0_2, pg0_3, pg0_4, pg0_5, pg0_6, pg0_7, pg0_8, pg0_9, pg0_10, pg0_11, pp0_1, pp0_2, pp0_3, pp0_8, pp0_9, pp0_10, pp0_11, dw40, du40, nI_1, z5_23, z5_25, z5_26, z5_29, z5_32, z5_33, z5_36, z5_37]
      rw [if_neg (pm_nem1 (show j < 2 ^ 31 by omega))]
      simp only [z5_117, ite_self]
theorem q_takeIn {r : Nat} (h8 : r ≤ 8) (hv : ab_val rk r) : pm_call 5 [.ref 40] (pm_Dw w rk (nI r) st en tw te pf ca cc rd bw be) = some (none, pm_Dw w rk (nI r) (ab_ti rk tw te r 0 be bw 0).1 (ab_ti rk tw te r 0 be bw 0).2.1 tw te pf ca cc rd bw be) := by
  simp only [pe5, z5_0, z5_1, z5_4, z5_5, z5_6, z5_9, z5_10, z5_11, z5_12, z5_15, z5_16, z5_17, z5_20, z5_21, pm_kv_some, pm_kw_some, pm_k_some, pm_k_void, pm_vc_some, pm_kl_some, pg0_0, pg0_1, pg0_2, pg0_3, pg0_4, pg0_5, pg0_6, pg0_7, pg0_8, pg0_9, pg0_10, pg0_11, pp0_1, pp0_2, pp0_3, pp0_8, pp0_9, pp0_10, pp0_11, dw40, du40]
  exact q_ti_loop h8 hv r 0 _ _ _ _ _ _ _ _ (by omega)
theorem ab_fl_val {t : Nat} {re : Int64} (hv : ab_val ca t) : ∀ (m k : Nat) (rk : Nat → Int32) (r : Nat), k + m = t → r ≤ k → ab_val rk r → ab_val (ab_fl pf re ca m k rk r).1 (ab_fl pf re ca m k rk r).2 ∧ (ab_fl pf re ca m k rk r).2 ≤ t := by
  intro m
  induction m with
  | zero => intro k rk r hk hr h; exact ⟨h, by show r ≤ t; omega⟩
  | succ m ih =>
    intro k rk r hk hr h
    unfold ab_fl
    by_cases hp : re < pf (ca k).toNatClampNeg
    · rw [if_pos hp]; exact ih _ _ _ (by omega) (by omega) h
    · rw [if_neg hp]
      refine ih _ _ _ (by omega) (by omega) (fun s hs => ?_)
      by_cases h2 : s = r
      · subst h2; rw [pk_us]; exact hv k (by omega)
      · rw [pk_un h2]; exact h s (by omega)
theorem q_settle {t : Nat} {be0 re : Int64} (h8 : t ≤ 8) (hv : ab_val ca t) : pm_call 4 [.ref 40, .long be0, .long re] (pm_Dw w rk rc st en tw te pf ca (nI t) rd bw be)
    = some (none, pm_Dw w (ab_fl pf re ca t 0 rk 0).1 (nI (ab_fl pf re ca t 0 rk 0).2) (ab_ti (ab_fl pf re ca t 0 rk 0).1 tw te (ab_fl pf re ca t 0 rk 0).2 0 be0 bw 0).1 (ab_ti (ab_fl pf re ca t 0 rk 0).1 tw te (ab_fl pf re ca t 0 rk 0).2 0 be0 bw 0).2.1 tw te pf ca (nI t) rd bw be0) := by
  obtain ⟨h1, h2⟩ := ab_fl_val (pf := pf) (re := re) hv t 0 rk 0 (by omega) (by omega) (fun s hs => absurd hs (by omega))
  simp only [pe4, z4_0, z4_1, z4_2, z4_5, z4_6, z4_7, z4_10, z4_11, pm_kv_some, pm_kw_some, pm_k_some, pm_k_void, pm_vc_some, pm_kl_some, pg0_0, pg0_1, pg0_2, pg0_3, pg0_4, pg0_5, pg0_6, pg0_7, pg0_8, pg0_9, pg0_10, pg0_11, pp0_1, pp0_2, pp0_3, pp0_8, pp0_9, pp0_10, pp0_11, dw40, du40]
  rw [show (0 : Int32) = nI 0 from rfl, q_fl_loop h8 hv t 0 rk 0 _ (by omega) (by omega)]
  simp only [z4_70, z4_71, z4_74, pm_kv_some, pm_kw_some, pm_k_some, pm_k_void, pm_vc_some, pm_kl_some, dw40, q_takeIn (show (ab_fl pf re ca t 0 rk 0).2 ≤ 8 by omega) h1]
  rfl
theorem q_judge {y n ic a b : Nat} {Y : Nat → Nat → Int32} {lo : Int32} (hY : pm_Yr w y Y) (hy : 48 < y) (hn : Y 3 0 = nI n) (h20 : n ≤ 20) (hic : Y 7 0 = nI ic) (h8 : ic ≤ 8) (hab : a ≤ b) (hb : b < 4)
    (hv : ab_val (ab_ga (fun i => ab_aw Y n i a b) (fun i => ab_ae Y i a b) (ab_ff Y) lo ic 0 tw te pf ca 0).2.2.2.1 (ab_ga (fun i => ab_aw Y n i a b) (fun i => ab_ae Y i a b) (ab_ff Y) lo ic 0 tw te pf ca 0).2.2.2.2 ∧ (ab_ga (fun i => ab_aw Y n i a b) (fun i => ab_ae Y i a b) (ab_ff Y) lo ic 0 tw te pf ca 0).2.2.2.2 ≤ 8)
    {G : (Nat → Int64) × (Nat → Int64) × (Nat → Int64) × (Nat → Int32) × Nat} (hG : ab_ga (fun i => ab_aw Y n i a b) (fun i => ab_ae Y i a b) (ab_ff Y) lo ic 0 tw te pf ca 0 = G)
    {K : (Nat → Int32) × Nat} (hK : ab_fl G.2.2.1 (ab_er (Y 1) (b + 1) 0 0) G.2.2.2.1 G.2.2.2.2 0 rk 0 = K)
    {T : Int32 × Int32 × Int64 × Int64} (hT : ab_ti K.1 G.1 G.2.1 K.2 0 (ab_er (Y 1) (b + 1 - a) a 0) (ab_wt Y n ((nI b + 1) * 90) n 0 (nI a * 90) 0) 0 = T) :
    pm_call 0 [.ref 40, .ref y, .int (nI a), .int (nI b), .int lo] (pm_Dw w rk rc st en tw te pf ca cc rd bw be)
    = some (none, pm_Dw w K.1 (nI K.2) T.1 T.2.1 G.1 G.2.1 G.2.2.1 G.2.2.2.1 (nI G.2.2.2.2) ((nI b - nI a + 1) * 90) (ab_wt Y n ((nI b + 1) * 90) n 0 (nI a * 90) 0) (ab_er (Y 1) (b + 1 - a) a 0)) := by
  have he : ∀ w' : pm_H, pm_Yr w' y Y → pm_call 51 [.ref y, .int 0, .int (nI b)] w' = some (some (.long (ab_er (Y 1) (b + 1) 0 0)), w') := fun w' h => q_earningsOf (a := 0) h (by omega) hb
  have hYD : ∀ (rk : Nat → Int32) (rc st en : Int32) (tw te pf : Nat → Int64) (ca : Nat → Int32) (cc rd : Int32) (bw be : Int64), pm_Yr (pm_Dw w rk rc st en tw te pf ca cc rd bw be) y Y := fun _ _ _ _ _ _ _ _ _ _ _ _ => dwY hY hy
  rw [hG] at hv
  subst hK
  subst hT
  simp only [pe0, z0_0, z0_1, z0_2, z0_3, z0_4, z0_6, z0_9, z0_10, z0_11, z0_12, z0_13, z0_16, z0_17, z0_18, z0_19, z0_22, z0_25, pm_kv_some, pm_kw_some, pm_k_some, pm_k_void, pm_vc_some, pm_kl_some, dw40, q_gather hY hy hn h20 hic h8 hab hb, hG, (hYD _ _ _ _ _ _ _ _ _ _ _ _).1, q_earningsOf (hYD _ _ _ _ _ _ _ _ _ _ _ _) hab hb, he _ (hYD _ _ _ _ _ _ _ _ _ _ _ _), q_settle hv.2 hv.1]
def ab_bit (t : Int32) (i : Nat) : Prop := (t >>> (nI i &&& 31)) &&& 1 = 1
def ab_bitd (t : Int32) (i : Nat) : Decidable (ab_bit t i) := inferInstanceAs (Decidable ((t >>> (nI i &&& 31)) &&& 1 = 1))
/-- a sum over a set -/
def ab_sum (t : Int32) (f : Nat → Int64) : Nat → Nat → Int64 → Int64
  | 0, _, c => c
  | m + 1, i, c => ab_sum t f m (i + 1) (@ite _ (ab_bit t i) (ab_bitd t i) (c + f i) c)
def ab_fd (x y : Int64) : Int64 := if x ^^^ y < 0 then (if x / y * y = x then x / y else x / y - 1) else x / y
theorem q_floorDiv {w : pm_H} {x y : Int64} (hy : ¬ y = 0) : pm_call 167 [.long x, .long y] w = some (some (.long (ab_fd x y)), w) := by
  simp only [pe167, z167_0, z167_1, z167_2, z167_3, z167_5, z167_6, z167_7, z167_8, z167_9, z167_10, z167_13, z167_15, z167_16, z167_17, z167_18, z167_19, z167_22, z167_24, z167_25, z167_26, z167_27, z167_29, pm_kv_some, pm_kw_some, pm_k_some, pm_k_void, pm_vc_some, pm_kl_some, pm_dv_ne hy, pm_lc_lt, pm_lc_eq, ab_fd]
  split
  · split <;> rfl
  · rfl
def ab_as (e v : Int64) (rd : Int32) : Int32 := if 0 < v then (ab_fd (e * 1000 * rd.toInt64) v).toInt32 else 0
theorem q_as_loop {tk : Int32} {bs : Int64} : ∀ (m i : Nat) (e v : Int64), i + m = 8 → pm_ev 6 12 [some (.ref 40), some (.int tk), some (.long bs), none, some (.long e), none, some (.long v), none, some (.int (nI i))] [] (pm_Dw w rk rc st en tw te pf ca cc rd bw be)
    = some (some (.int (ab_as (ab_sum tk te m i e) (ab_sum tk tw m i v) rd)), pm_Dw w rk rc st en tw te pf ca cc rd bw be) := by
  intro m
  induction m with
  | zero =>
    intro i e v hi
    rw [show ab_sum tk te 0 i e = e from rfl, show ab_sum tk tw 0 i v = v from rfl]
    simp only [z6_12, z6_14, z6_16]
    rw [if_neg (show ¬ nI i < 8 from nI_nlt (b := 8) (by omega) (by omega))]
    simp only [z6_59, z6_61, z6_62, z6_63, pm_lc_gt, ab_as]
    by_cases hv : 0 < v
    · rw [if_pos hv, if_pos hv]
      simp only [z6_70, z6_72, z6_75, z6_76, z6_77, z6_80, z6_81, z6_82, z6_84, z6_87, z6_88, pm_kv_some, pm_kw_some, pm_k_some, pm_k_void, pm_vc_some, pm_kl_some, pg0_0, pg0_1, pg0_2, pg0_3, pg0_4, pg0_5, pg0_6, pg0_7, pg0_8, pg0_9, pg0_10, pg0_11, dw40, q_floorDiv (pm_pos_ne hv)]
    · rw [if_neg hv, if_neg hv]
      simp only [z6_66, z6_67, z6_88]
  | succ m ih =>
    intro i e v hi
    have hin : vp_in (nI i) 8 := vp_in_nI (by omega) (by omega)
    simp only [z6_12, z6_14, z6_16]
    rw [if_pos (show nI i < 8 from nI_lt (b := 8) (by omega) (by omega))]
    simp only [z6_19, z6_20, z6_22, z6_23, z6_24, z6_25, z6_26]
    by_cases hb : (tk >>> (nI i &&& 31)) &&& 1 = 1
    · rw [if_pos hb]
      simp only [z6_29, z6_31, z6_32, z6_35, z6_37, z6_38, z6_39, z6_41, z6_43, z6_44, z6_47, z6_49, z6_50, z6_51, z6_53, z6_56, pm_kv_some, pm_kw_some, pm_k_some, pm_k_void, pm_vc_some, pm_kl_some, pg0_0, pg0_1, pg0_2, pg0_3, pg0_4, pg0_5, pg0_6, pg0_7, pg0_8, pg0_9, pg0_10, pg0_11, dw40, dw45, dw46, pm_la_in hin, nI_clamp (show i < 2 ^ 31 by omega), nI_1]
      rw [ih _ _ _ (by omega)]
      conv => rhs; unfold ab_sum
      rw [if_pos (show ab_bit tk i from hb), if_pos (show ab_bit tk i from hb)]
    · rw [if_neg hb]
      simp only [z6_53, z6_56, nI_1]
      rw [ih _ _ _ (by omega)]
      conv => rhs; unfold ab_sum
      rw [if_neg (show ¬ ab_bit tk i from hb), if_neg (show ¬ ab_bit tk i from hb)]
theorem q_aShareWith {tk : Int32} {bs : Int64} : pm_call 6 [.ref 40, .int tk, .long bs] (pm_Dw w rk rc st en tw te pf ca cc rd bw be) = some (some (.int (ab_as (ab_sum tk te 8 0 bs) (ab_sum tk tw 8 0 bw) rd)), pm_Dw w rk rc st en tw te pf ca cc rd bw be) := by
  simp only [pe6, z6_0, z6_1, z6_3, z6_4, z6_7, z6_9, z6_10, pm_kv_some, pm_kw_some, pm_k_some, pm_k_void, pm_vc_some, pm_kl_some, pg0_0, pg0_1, pg0_2, pg0_3, pg0_4, pg0_5, pg0_6, pg0_7, pg0_8, pg0_9, pg0_10, pg0_11, dw40]
  exact q_as_loop 8 0 _ _ (by omega)
theorem q_diluted : pm_call 7 [.ref 40] (pm_Dw w rk rc st en tw te pf ca cc rd bw be) = some (some (.int (ab_as (ab_sum st te 8 0 be) (ab_sum st tw 8 0 bw) rd)), pm_Dw w rk rc st en tw te pf ca cc rd bw be) := by
  simp only [pe7, z7_0, z7_1, z7_2, z7_5, z7_6, z7_9, z7_12, pm_kv_some, pm_kw_some, pm_k_some, pm_k_void, pm_vc_some, pm_kl_some, pg0_0, pg0_1, pg0_2, pg0_3, pg0_4, pg0_5, pg0_6, pg0_7, pg0_8, pg0_9, pg0_10, pg0_11, dw40, q_aShareWith]
/-- the set of the ranked -/
def ab_rs_ (rk : Nat → Int32) : Nat → Nat → Int32 → Int32
  | 0, _, s => s
  | m + 1, k, s => ab_rs_ rk m (k + 1) (s ||| (1 <<< (rk k &&& 31)))
theorem q_rs_loop {r : Nat} (h8 : r ≤ 8) : ∀ (m k : Nat) (s : Int32), k + m = r → pm_ev 8 4 [some (.ref 40), some (.int s), some (.int (nI k))] [] (pm_Dw w rk (nI r) st en tw te pf ca cc rd bw be) = some (some (.int (ab_rs_ rk m k s)), pm_Dw w rk (nI r) st en tw te pf ca cc rd bw be) := by
  intro m
  induction m with
  | zero =>
    intro k s hk
    simp only [z8_4, z8_5, z8_6, z8_9, pm_kv_some, pm_kw_some, pm_k_some, pm_k_void, pm_vc_some, pm_kl_some, pg0_0, pg0_1, pg0_2, pg0_3, pg0_4, pg0_5, pg0_6, pg0_7, pg0_8, pg0_9, pg0_10, pg0_11, dw40]
    rw [if_neg (nI_nlt (by omega) (by omega))]
    simp only [z8_29, z8_30, ab_rs_]
  | succ m ih =>
    intro k s hk
    simp only [z8_4, z8_5, z8_6, z8_9, pm_kv_some, pm_kw_some, pm_k_some, pm_k_void, pm_vc_some, pm_kl_some, pg0_0, pg0_1, pg0_2, pg0_3, pg0_4, pg0_5, pg0_6, pg0_7, pg0_8, pg0_9, pg0_10, pg0_11, dw40]
    rw [if_pos (nI_lt (by omega) (by omega))]
    simp only [z8_12, z8_13, z8_14, z8_15, z8_18, z8_19, z8_20, z8_21, z8_22, z8_23, z8_26, pm_kv_some, pm_kw_some, pm_k_some, pm_k_void, pm_vc_some, pm_kl_some, pg0_0, pg0_1, pg0_2, pg0_3, pg0_4, pg0_5, pg0_6, pg0_7, pg0_8, pg0_9, pg0_10, pg0_11, dw40, dw41, pm_ia_in (vp_in_nI (show k < 8 by omega) (by omega)), nI_clamp (show k < 2 ^ 31 by omega), nI_1, ab_rs_]
    exact ih _ _ (by omega)
theorem q_rankedSet {r : Nat} (h8 : r ≤ 8) : pm_call 8 [.ref 40] (pm_Dw w rk (nI r) st en tw te pf ca cc rd bw be) = some (some (.int (ab_rs_ rk r 0 0)), pm_Dw w rk (nI r) st en tw te pf ca cc rd bw be) := by
  simp only [pe8, z8_0, z8_1, z8_2, z8_3]
  exact q_rs_loop h8 r 0 0 (by omega)
/-- what is gathered is in range -/
theorem ab_ga_val {Wf Ef Ff : Nat → Int64} {lo : Int32} {N : Nat} (hN : N ≤ 8) : ∀ (m i : Nat) (tw te pf : Nat → Int64) (ca : Nat → Int32) (t : Nat), i + m = N → t ≤ i → ab_val ca t → ab_val (ab_ga Wf Ef Ff lo m i tw te pf ca t).2.2.2.1 (ab_ga Wf Ef Ff lo m i tw te pf ca t).2.2.2.2 ∧ (ab_ga Wf Ef Ff lo m i tw te pf ca t).2.2.2.2 ≤ N := by
  intro m
  induction m with
  | zero => intro i tw te pf ca t hi ht hv; exact ⟨hv, by show t ≤ N; omega⟩
  | succ m ih =>
    intro i tw te pf ca t hi ht hv
    unfold ab_ga
    by_cases h : ¬ nI i = lo ∧ 0 < Wf i
    · rw [if_pos h]
      exact ih _ _ _ _ _ _ (by omega) (by omega) (ab_shift_val (by omega) t ca (by omega) (fun s hs hst => hv s (by omega)))
    · rw [if_neg h]
      exact ih _ _ _ _ _ _ (by omega) (by omega) hv
end PMD
