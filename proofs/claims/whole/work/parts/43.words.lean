/-! WORDS: by their letters (the class), by a number (the model) -/
def tz_ws : List (List Nat) := [[115, 104, 97, 114, 101, 115], [113, 117, 97, 114, 116, 101, 114], [108, 111, 115, 115], [112, 114, 111, 102, 105, 116], [112, 114, 105, 99, 101], [105, 115, 115, 117, 101], [98, 117, 121], [115, 112, 108, 105, 116], [111, 112, 116, 105, 111, 110], [98, 111, 110, 100], [101, 97, 114, 110]]
def tz_ln (j : Nat) : Nat := (tz_ws.getD j []).length
def tz_cd (j i : Nat) : Nat := (tz_ws.getD j []).getD i 0
theorem tz_ln_7 : ∀ j, j < 11 → 1 ≤ tz_ln j ∧ tz_ln j ≤ 7 := by decide
theorem tz_cd_b : ∀ j, j < 11 → ∀ i, i < tz_ln j → 97 ≤ tz_cd j i ∧ tz_cd j i ≤ 122 := by decide
theorem tz_sc3 {j : Nat} (hj : j < 11) : pm_sc 3 [.ref (1000 + j)] = some (.int (nI (tz_ln j))) := by
  have e : ∀ j, j < 11 → pt_sn.getD j 0 = tz_ln j := by decide
  have l : pt_sx.length = 11 := rfl
  show (if 1000 ≤ 1000 + j ∧ 1000 + j - 1000 < pt_sx.length then some (Value.int (Int32.ofNat (pt_sn.getD (1000 + j - 1000) 0))) else none) = _
  rw [l, if_pos (by omega), show 1000 + j - 1000 = j by omega, e j hj]; rfl
theorem tz_sc4 {j i : Nat} (hj : j < 11) (hi : i < tz_ln j) : pm_sc 4 [.ref (1000 + j), .int (nI i)] = some (.int (nI (tz_cd j i))) := by
  have e : ∀ j, j < 11 → pt_sn.getD j 0 = tz_ln j := by decide
  have e2 : ∀ j, j < 11 → ∀ i, i < tz_ln j → (pt_sb.getD j []).getD i 0 = nI (tz_cd j i) := by decide +kernel
  have l : pt_sx.length = 11 := rfl
  have h7 := tz_ln_7 j hj
  show (if 1000 ≤ 1000 + j ∧ 1000 + j - 1000 < pt_sx.length then (if nI i < 0 ∨ pt_sn.getD (1000 + j - 1000) 0 ≤ (nI i).toNatClampNeg then none else some (Value.int ((pt_sb.getD (1000 + j - 1000) []).getD (nI i).toNatClampNeg 0))) else none) = _
  rw [l, if_pos (by omega), show 1000 + j - 1000 = j by omega, e j hj, nI_clamp (by omega), if_neg (fun z => by
    rcases z with z | z
    · exact nI_pos (by omega) z
    · omega), e2 j hj i hi]
/-- the token at p is the word j -/
def tz_isw (c : Nat → Nat) (t p j : Nat) : Prop := (tz_t c t p).1 = 1 ∧ (tz_t c t p).2.2 - (tz_t c t p).2.1 = tz_ln j ∧ ∀ i, i < tz_ln j → c ((tz_t c t p).2.1 + i) = tz_cd j i
def tz_ccur (c : Nat → Nat) (t p : Nat) (pl nx tk va : Int32) : Prop :=
  pl = nI (tz_t c t p).2.1 ∧ tk = nI (if (tz_t c t p).1 = 5 then 0 else (tz_t c t p).1) ∧ ((tz_t c t p).1 = 1 ∨ (tz_t c t p).1 = 2 ∨ (tz_t c t p).1 = 3 → nx = nI (tz_t c t p).2.2) ∧ ((tz_t c t p).1 = 2 → va = tz_v c (tz_t c t p).2.1 ((tz_t c t p).2.2 - (tz_t c t p).2.1))
theorem tz_k5 {c : Nat → Nat} {t p : Nat} (hp : p ≤ t) : (tz_t c t p).1 ≤ 5 := by
  unfold tz_t
  split
  · exact Nat.le_refl _
  · split
    · show 0 ≤ 5; omega
    · split
      · show 3 ≤ 5; omega
      · show (if _ then _ else _) ≤ 5
        split
        · omega
        · split <;> omega
section PWD
variable {w : pm_H} {fk fp pl nx tk va : Int32} {c : Nat → Nat} {B : Nat → Int32} {t p j : Nat}
theorem c_step (h10 : w 10 = some (.inr (3, [.ref 11, .int (nI t)]))) (h11 : w 11 = some (.inl (2, 740, .inl B))) (hB : tz_B B c t) (ht : t ≤ 740) (hp : p ≤ t) : ∃ pl' nx' tk' va' : Int32, pm_call 13 [.ref 20] (pm_Rw w fk fp pl (nI p) tk va) = some (none, pm_Rw w fk fp pl' nx' tk' va') ∧ tz_ccur c t p pl' nx' tk' va' := by
  obtain ⟨nx', va', h1, h2, h3⟩ := q_step (w := w) (fk := fk) (fp := fp) (pl := pl) (tk := tk) (va := va) h10 h11 hB ht hp (tz_t_at hp)
  exact ⟨_, nx', _, va', h1, rfl, rfl, h2, h3⟩
theorem q_isw_loop (h10 : w 10 = some (.inr (3, [.ref 11, .int (nI t)]))) (h11 : w 11 = some (.inl (2, 740, .inl B))) (hB : tz_B B c t) (ht : t ≤ 740) {s : Nat} (hj : j < 11) (hs : s + tz_ln j ≤ t) : ∀ (m i : Nat), i + m = tz_ln j →
    ((∀ k, i ≤ k → k < tz_ln j → c (s + k) = tz_cd j k) → pm_ev 18 28 [some (.ref 20), some (.ref (1000 + j)), some (.int (nI i))] [] (pm_Rw w fk fp (nI s) nx tk va) = some (some (.int 1), pm_Rw w fk fp (nI s) nx tk va)) ∧
    (¬ (∀ k, i ≤ k → k < tz_ln j → c (s + k) = tz_cd j k) → pm_ev 18 28 [some (.ref 20), some (.ref (1000 + j)), some (.int (nI i))] [] (pm_Rw w fk fp (nI s) nx tk va) = some (some (.int 0), pm_Rw w fk fp (nI s) nx tk va)) := by
  intro m
  have h7 := tz_ln_7 j hj
  induction m with
  | zero =>
    intro i hi
    refine ⟨fun _ => ?_, fun h => absurd (fun k h1 h2 => by omega) h⟩
    simp only [z18_28, z18_29, z18_30, z18_33, pm_kv_some, pm_kw_some, pm_k_some, pm_k_void, pm_vc_some, pm_kl_some, tz_sc3 hj]
    rw [if_neg (nI_nlt (by omega) (by omega))]
    simp only [z18_66, z18_67, pm_zr1]
  | succ m ih =>
    intro i hi
    obtain ⟨b1, b2⟩ := hB (s + i) (by omega)
    have hin := vp_in_nI (show s + i < 740 by omega) (by omega)
    have hcd := tz_cd_b j hj i (by omega)
    have st : pm_ev 18 28 [some (.ref 20), some (.ref (1000 + j)), some (.int (nI i))] [] (pm_Rw w fk fp (nI s) nx tk va) = if tz_b (c (s + i)) = nI (tz_cd j i) then pm_ev 18 28 [some (.ref 20), some (.ref (1000 + j)), some (.int (nI (i + 1)))] [] (pm_Rw w fk fp (nI s) nx tk va) else some (some (.int 0), pm_Rw w fk fp (nI s) nx tk va) := by
      conv => lhs; simp only [z18_28, z18_29, z18_30, z18_33, pm_kv_some, pm_kw_some, pm_k_some, pm_k_void, pm_vc_some, pm_kl_some, tz_sc3 hj]
      rw [if_pos (nI_lt (by omega) (by omega))]
      conv => lhs; simp only [z18_36, z18_37, z18_40, z18_43, z18_44, z18_47, z18_48, z18_49, z18_50, z18_51, z18_52, z18_55, pm_kv_some, pm_kw_some, pm_k_some, pm_k_void, pm_vc_some, pm_kl_some, pg2_0, pg2_1, pg2_2, pg2_3, pg2_4, pg2_5, pg2_6, pg3_0, pg3_1, rw20, rw10, rw11, h10, h11, nI_add, pm_ia_in hin, nI_clamp (show s + i < 2 ^ 31 by omega), b2, tz_sc4 hj (show i < tz_ln j by omega)]
      by_cases e : tz_b (c (s + i)) = nI (tz_cd j i)
      · rw [if_pos e, if_pos e]
        conv => lhs; simp only [z18_60, z18_63, nI_1]
      · rw [if_neg e, if_neg e]
        simp only [z18_58, z18_59, pm_zr0]
    have ee := tz_b_e (x := c (s + i)) (v := tz_cd j i) b1 (by omega)
    obtain ⟨i1, i2⟩ := ih (i + 1) (by omega)
    rw [st]
    refine ⟨fun h => ?_, fun h => ?_⟩
    · rw [if_pos (ee.mpr (h i (Nat.le_refl _) (by omega)))]
      exact i1 (fun k h1 h2 => h k (by omega) h2)
    · by_cases e : c (s + i) = tz_cd j i
      · rw [if_pos (ee.mpr e)]
        refine i2 (fun h3 => h (fun k h1 h2 => ?_))
        by_cases ek : k = i
        · subst ek; exact e
        · exact h3 k (by omega) h2
      · rw [if_neg (fun z => e (ee.mp z))]
theorem c_isWord (h10 : w 10 = some (.inr (3, [.ref 11, .int (nI t)]))) (h11 : w 11 = some (.inl (2, 740, .inl B))) (hB : tz_B B c t) (ht : t ≤ 740) (hp : p ≤ t) (hj : j < 11) (hc : tz_ccur c t p pl nx tk va) :
    (tz_isw c t p j → pm_call 18 [.ref 20, .ref (1000 + j)] (pm_Rw w fk fp pl nx tk va) = some (some (.int 1), pm_Rw w fk fp pl nx tk va)) ∧ (¬ tz_isw c t p j → pm_call 18 [.ref 20, .ref (1000 + j)] (pm_Rw w fk fp pl nx tk va) = some (some (.int 0), pm_Rw w fk fp pl nx tk va)) := by
  have h7 := tz_ln_7 j hj
  have k5 := tz_k5 (c := c) hp
  have hat := tz_t_at (c := c) hp
  unfold tz_isw
  unfold tz_ccur at hc
  generalize (tz_t c t p).1 = k at *
  generalize (tz_t c t p).2.1 = s at *
  generalize (tz_t c t p).2.2 = r at *
  obtain ⟨c1, c2, c3, -⟩ := hc
  subst c1; subst c2
  have fin : pm_ev 18 24 [some (.ref 20), some (.ref (1000 + j)), none] [] (pm_Rw w fk fp (nI s) nx (nI (if k = 5 then 0 else k)) va) = some (some (.int 0), pm_Rw w fk fp (nI s) nx (nI (if k = 5 then 0 else k)) va) := by
    simp only [z18_24, z18_25, pm_zr0]
  by_cases hk : k = 1
  · subst hk
    have e3 := c3 (Or.inl rfl)
    subst e3
    have hr := tz_r_le hat (Or.inl rfl)
    have st : pm_call 18 [.ref 20, .ref (1000 + j)] (pm_Rw w fk fp (nI s) (nI r) (nI (if 1 = 5 then 0 else 1)) va) = if nI (r - s) = nI (tz_ln j) then pm_ev 18 28 [some (.ref 20), some (.ref (1000 + j)), some (.int (nI 0))] [] (pm_Rw w fk fp (nI s) (nI r) (nI (if 1 = 5 then 0 else 1)) va) else some (some (.int 0), pm_Rw w fk fp (nI s) (nI r) (nI (if 1 = 5 then 0 else 1)) va) := by
      conv => lhs; simp only [pe18, z18_0, z18_1, z18_4, z18_5, pm_kv_some, pm_kw_some, pm_k_some, pm_k_void, pm_vc_some, pm_kl_some, pg2_0, pg2_1, pg2_2, pg2_3, pg2_4, pg2_5, pg2_6, rw20]
      rw [if_pos (show nI (if 1 = 5 then 0 else 1) = 1 from rfl)]
      conv => lhs; simp only [z18_8, z18_9, z18_12, z18_13, z18_16, z18_17, z18_18, z18_21, pm_kv_some, pm_kw_some, pm_k_some, pm_k_void, pm_vc_some, pm_kl_some, pg2_0, pg2_1, pg2_2, pg2_3, pg2_4, pg2_5, pg2_6, rw20, pk_sub (show s ≤ r by omega), tz_sc3 hj]
      by_cases e : nI (r - s) = nI (tz_ln j)
      · rw [if_pos e, if_pos e]
        conv => lhs; simp only [z18_26, z18_27]
        rfl
      · rw [if_neg e, if_neg e]; exact fin
    rw [st]
    have hq := nI_eq (a := r - s) (b := tz_ln j) (by omega) (by omega)
    refine ⟨fun h => ?_, fun h => ?_⟩
    · rw [if_pos (hq.mpr h.2.1)]
      have := h.2.1
      exact (q_isw_loop h10 h11 hB ht hj (by omega) (tz_ln j) 0 (by omega)).1 (fun k _ h2 => h.2.2 k h2)
    · by_cases e : r - s = tz_ln j
      · rw [if_pos (hq.mpr e)]
        exact (q_isw_loop h10 h11 hB ht hj (by omega) (tz_ln j) 0 (by omega)).2 (fun h3 => h ⟨rfl, e, fun i hi => h3 i (by omega) hi⟩)
      · rw [if_neg (fun z => e (hq.mp z))]
  · refine ⟨fun h => absurd h.1 hk, fun _ => ?_⟩
    simp only [pe18, z18_0, z18_1, z18_4, z18_5, pm_kv_some, pm_kw_some, pm_k_some, pm_k_void, pm_vc_some, pm_kl_some, pg2_0, pg2_1, pg2_2, pg2_3, pg2_4, pg2_5, pg2_6, rw20]
    have hne : ¬ nI (if k = 5 then 0 else k) = 1 := by
      intro z
      by_cases e : k = 5
      · rw [if_pos e] at z; exact absurd z (by decide)
      · rw [if_neg e] at z
        exact hk ((nI_eq (b := 1) (by omega) (by omega)).mp z)
    rw [if_neg hne]
    exact fin
end PWD
/-- a word as a number to the base 27 -/
def tz_h (c : Nat → Nat) (s : Nat) : Nat → Nat
  | 0 => 0
  | m + 1 => if m < 8 then 27 * tz_h c s m + (c (s + m) - 96) else tz_h c s m
def tz_hd (d : Nat → Nat) : Nat → Nat
  | 0 => 0
  | m + 1 => 27 * tz_hd d m + (d m - 96)
theorem tz_w_h {c : Nat → Nat} {s : Nat} : ∀ m : Nat, (∀ i, i < m → 97 ≤ c (s + i) ∧ c (s + i) ≤ 122) → tz_w c s m = lN (tz_h c s m) ∧ tz_h c s m < 27 ^ 8 ∧ (m ≤ 8 → tz_h c s m < 27 ^ m) := by
  intro m
  induction m with
  | zero => intro _; exact ⟨rfl, by show 0 < 27 ^ 8; decide, fun _ => by show 0 < 27 ^ 0; decide⟩
  | succ m ih =>
    intro h
    obtain ⟨i1, i2, i3⟩ := ih (fun i hi => h i (by omega))
    have hm := h m (by omega)
    unfold tz_w tz_h
    by_cases e : m < 8
    · have i3' := i3 (by omega)
      have h27 : (27 : Nat) ^ (m + 1) = 27 * 27 ^ m := by rw [Nat.pow_succ, Nat.mul_comm]
      have hle : (27 : Nat) ^ (m + 1) ≤ 27 ^ 8 := Nat.pow_le_pow_right (by omega) (by omega)
      rw [if_pos e, if_pos e, i1, nI_l (by omega), show (27 : Int64) = lN 27 from rfl, show (96 : Int64) = lN 96 from rfl, lN_mul, lN_add, lN_sub (by omega)]
      exact ⟨by congr 1; omega, by omega, fun _ => by omega⟩
    · rw [if_neg e, if_neg e]
      exact ⟨i1, i2, fun z => by omega⟩
theorem tz_hd_b {d : Nat → Nat} : ∀ L : Nat, L ≤ 8 → (∀ i, i < L → 97 ≤ d i ∧ d i ≤ 122) → tz_hd d L < 27 ^ L := by
  intro L
  induction L with
  | zero => intro _ _; show 0 < 27 ^ 0; decide
  | succ L ih =>
    intro h8 h
    have := ih (by omega) (fun i hi => h i (by omega))
    have hL := h L (by omega)
    have h27 : (27 : Nat) ^ (L + 1) = 27 * 27 ^ L := by rw [Nat.pow_succ, Nat.mul_comm]
    unfold tz_hd
    omega
theorem tz_h_inj {c : Nat → Nat} {s : Nat} {d : Nat → Nat} : ∀ (m L : Nat), m ≤ 8 → (∀ i, i < m → 97 ≤ c (s + i) ∧ c (s + i) ≤ 122) → (∀ i, i < L → 97 ≤ d i ∧ d i ≤ 122) → (tz_h c s m = tz_hd d L ↔ m = L ∧ ∀ i, i < L → c (s + i) = d i) := by
  intro m
  induction m with
  | zero =>
    intro L _ _ hd
    cases L with
    | zero => exact ⟨fun _ => ⟨rfl, fun i hi => by omega⟩, fun _ => rfl⟩
    | succ L =>
      have := hd L (by omega)
      refine ⟨fun h => ?_, fun h => by omega⟩
      have e1 : tz_h c s 0 = 0 := rfl
      have e2 : tz_hd d (L + 1) = 27 * tz_hd d L + (d L - 96) := rfl
      omega
  | succ m ih =>
    intro L h8 hc hd
    have e1 : tz_h c s (m + 1) = 27 * tz_h c s m + (c (s + m) - 96) := by
      show (if _ then _ else _) = _
      rw [if_pos (by omega)]
    have hm := hc m (by omega)
    cases L with
    | zero =>
      refine ⟨fun h => ?_, fun h => by omega⟩
      have e2 : tz_hd d 0 = 0 := rfl
      omega
    | succ L =>
      have hL := hd L (by omega)
      have e2 : tz_hd d (L + 1) = 27 * tz_hd d L + (d L - 96) := rfl
      have i := ih L (by omega) (fun i hi => hc i (by omega)) (fun i hi => hd i (by omega))
      rw [e1, e2]
      refine ⟨fun h => ?_, fun h => ?_⟩
      · obtain ⟨a1, a2⟩ := i.mp (by omega)
        subst a1
        refine ⟨rfl, fun k hk => ?_⟩
        by_cases ek : k = m
        · subst ek; omega
        · exact a2 k (by omega)
      · obtain ⟨a1, a2⟩ := h
        have a1' : m = L := by omega
        have a3 := i.mpr ⟨a1', fun k hk => a2 k (by omega)⟩
        have a4 := a2 L (by omega)
        rw [a1'] at *
        omega
theorem tz_w_eq {c : Nat → Nat} {s m j : Nat} (hj : j < 11) (hm : ∀ i, i < m → 97 ≤ c (s + i) ∧ c (s + i) ≤ 122) : tz_w c s m = lN (tz_hd (tz_cd j) (tz_ln j)) ↔ m = tz_ln j ∧ ∀ i, i < tz_ln j → c (s + i) = tz_cd j i := by
  have h7 := tz_ln_7 j hj
  obtain ⟨w1, w2, -⟩ := tz_w_h m hm
  have hb := tz_hd_b (d := tz_cd j) (tz_ln j) (by omega) (tz_cd_b j hj)
  have h78 : (27 : Nat) ^ tz_ln j ≤ 27 ^ 7 := Nat.pow_le_pow_right (by omega) h7.2
  have h8 : (27 : Nat) ^ 8 < 2 ^ 63 := by decide
  have h77 : (27 : Nat) ^ 7 < 2 ^ 63 := by decide
  rw [w1, pk_lEQ (by omega) (by omega)]
  by_cases e : m ≤ 8
  · exact tz_h_inj m (tz_ln j) e hm (tz_cd_b j hj)
  · have e8 : ∀ k, tz_h c s (8 + k) = tz_h c s 8 := by
      intro k
      induction k with
      | zero => rfl
      | succ k ih =>
        rw [← Nat.add_assoc]
        show (if _ then _ else _) = _
        rw [if_neg (by omega)]; exact ih
    have := e8 (m - 8)
    rw [show 8 + (m - 8) = m by omega] at this
    rw [this]
    refine ⟨fun h => ?_, fun h => by omega⟩
    have := ((tz_h_inj (c := c) (s := s) 8 (tz_ln j) (Nat.le_refl _) (fun i hi => hm i (by omega)) (tz_cd_b j hj)).mp h).1
    omega
section PMW
variable {w : pm_H} {TT R RD SN : Nat → Int32} {wt er : Nat → Int64} {rk : Nat → Int32} {s0 s2 s3 s4 s5 s6 s7 s8 s9 s14 s18 s19 s20 : Int32} {l10 l21 l22 : Int64} {c : Nat → Nat} {t p j : Nat}
theorem m_isw {W : Int64} : pm_call 101 [.ref 200, .long W] (pm_Mw w (ab_S s0 s2 s3 s4 s5 s6 s7 s8 s9 s14 s18 s19 s20) (ab_Lg l10 l21 l22) TT R RD SN wt er rk) = some (some (.int (if s6 = 2 ∧ l10 = W then 1 else 0)), (pm_Mw w (ab_S s0 s2 s3 s4 s5 s6 s7 s8 s9 s14 s18 s19 s20) (ab_Lg l10 l21 l22) TT R RD SN wt er rk)) := by
  simp only [pe101, z101_0, z101_1, z101_4, z101_5, pm_kv_some, pm_kw_some, pm_k_some, pm_k_void, pm_vc_some, pm_kl_some, pg6_0, pg6_1, pg6_2, pg6_3, pg6_4, pg6_5, pg6_6, pg6_7, pg6_8, pg6_9, pg6_10, pg6_11, pg6_12, pg6_13, pg6_14, pg6_15, pg6_16, pg6_17, pg6_18, pg6_19, pg6_20, pg6_21, pg6_22, mw200, aS0, aS2, aS3, aS4, aS5, aS6, aS7, aS8, aS9, aS14, aS18, aS19, aS20, aL10, aL21, aL22]
  by_cases e1 : s6 = 2
  · rw [if_pos e1]
    simp only [z101_8, z101_9, z101_12, z101_13, z101_14, pm_kv_some, pm_kw_some, pm_k_some, pm_k_void, pm_vc_some, pm_kl_some, pg6_0, pg6_1, pg6_2, pg6_3, pg6_4, pg6_5, pg6_6, pg6_7, pg6_8, pg6_9, pg6_10, pg6_11, pg6_12, pg6_13, pg6_14, pg6_15, pg6_16, pg6_17, pg6_18, pg6_19, pg6_20, pg6_21, pg6_22, mw200, aS0, aS2, aS3, aS4, aS5, aS6, aS7, aS8, aS9, aS14, aS18, aS19, aS20, aL10, aL21, aL22, pm_lc_eq]
    by_cases e2 : l10 = W
    · rw [if_pos e2, if_pos ⟨e1, e2⟩]
      simp only [z101_17, z101_18, z101_21, z101_22, pm_zr1]
    · rw [if_neg e2, if_neg (fun z => e2 z.2)]
      simp only [z101_21, z101_22, pm_zr0]
  · rw [if_neg e1, if_neg (fun z => e1 z.1)]
    simp only [z101_21, z101_22, pm_zr0]
theorem m_isWord (hp : p ≤ t) (hj : j < 11) (hc : tz_cur c t p s4 s5 s6 s7 l10) : (tz_isw c t p j → pm_call 101 [.ref 200, .long (lN (tz_hd (tz_cd j) (tz_ln j)))] (pm_Mw w (ab_S s0 s2 s3 s4 s5 s6 s7 s8 s9 s14 s18 s19 s20) (ab_Lg l10 l21 l22) TT R RD SN wt er rk) = some (some (.int 1), (pm_Mw w (ab_S s0 s2 s3 s4 s5 s6 s7 s8 s9 s14 s18 s19 s20) (ab_Lg l10 l21 l22) TT R RD SN wt er rk))) ∧ (¬ tz_isw c t p j → pm_call 101 [.ref 200, .long (lN (tz_hd (tz_cd j) (tz_ln j)))] (pm_Mw w (ab_S s0 s2 s3 s4 s5 s6 s7 s8 s9 s14 s18 s19 s20) (ab_Lg l10 l21 l22) TT R RD SN wt er rk) = some (some (.int 0), (pm_Mw w (ab_S s0 s2 s3 s4 s5 s6 s7 s8 s9 s14 s18 s19 s20) (ab_Lg l10 l21 l22) TT R RD SN wt er rk))) := by
  have hat := tz_t_at (c := c) hp
  have k5 := tz_k5 (c := c) hp
  rw [m_isw]
  unfold tz_isw
  unfold tz_cur at hc
  generalize (tz_t c t p).1 = k at *
  generalize (tz_t c t p).2.1 = s at *
  generalize (tz_t c t p).2.2 = r at *
  obtain ⟨c1, c2, c3, c4, c5⟩ := hc
  by_cases hk : k = 1
  · have e6 : s6 = 2 := by rw [c2, hk]; rfl
    have hr := tz_r_le hat (Or.inl hk)
    have hl : ∀ i, i < r - s → 97 ≤ c (s + i) ∧ c (s + i) ≤ 122 := by
      rcases hat with h | h | h
      · omega
      · omega
      · obtain ⟨-, -, -, -, -, -, -, h⟩ := h
        rcases h with h | h
        · omega
        · obtain ⟨-, -, -, -, h1, -, h2⟩ := h
          have hd : tz_nd c s (r - s) = 0 := by
            refine Classical.byContradiction fun z => ?_
            rw [if_neg (fun y => z y.2)] at h2
            split at h2 <;> omega
          intro i hi
          exact (h1 (s + i) (by omega) (by omega)).resolve_right (tz_nd_0 (r - s) hd (s + i) (by omega) (by omega))
    have ew := tz_w_eq (c := c) (s := s) (m := r - s) hj hl
    rw [c5 hk]
    refine ⟨fun h => ?_, fun h => ?_⟩
    · rw [if_pos ⟨e6, ew.mpr h.2⟩]
    · rw [if_neg (fun z => h ⟨hk, ew.mp z.2⟩)]
  · have e6 : ¬ s6 = 2 := by
      rw [c2]
      intro z
      have h1 : tz_mk k < 2 ^ 31 := by unfold tz_mk; split <;> (try split) <;> (try split) <;> (try split) <;> omega
      have h2 := (nI_eq (b := 2) h1 (by omega)).mp z
      unfold tz_mk at h2
      split at h2
      · omega
      · split at h2
        · omega
        · split at h2 <;> omega
    refine ⟨fun h => absurd h.1 hk, fun _ => ?_⟩
    rw [if_neg (fun z => e6 z.1)]
theorem q_three {w : pm_H} {a b c : Int32} : pm_call 100 [.int a, .int b, .int c] w = some (some (.long (27 * (27 * (a.toInt64 - 96) + b.toInt64 - 96) + c.toInt64 - 96)), w) := by
  simp only [pe100, z100_0, z100_3, z100_6, z100_7, z100_8, z100_11, z100_12, z100_13, z100_14, z100_15, z100_16, z100_19, z100_20, z100_21, z100_22, z100_23, z100_24, z100_27, z100_28]
theorem q_six {w : pm_H} {a b c d e f : Int32} : pm_call 99 [.int a, .int b, .int c, .int d, .int e, .int f] w = some (some (.long (19683 * (27 * (27 * (a.toInt64 - 96) + b.toInt64 - 96) + c.toInt64 - 96) + (27 * (27 * (d.toInt64 - 96) + e.toInt64 - 96) + f.toInt64 - 96))), w) := by
  simp only [pe99, z99_0, z99_3, z99_4, z99_5, z99_6, z99_9, z99_10, z99_11, z99_13, z99_15, z99_18, z99_19, pm_kv_some, pm_kw_some, pm_k_some, pm_k_void, pm_vc_some, pm_kl_some, q_three]
theorem q_four {w : pm_H} {a b c d : Int32} : pm_call 106 [.int a, .int b, .int c, .int d] w = some (some (.long (27 * (27 * (27 * (a.toInt64 - 96) + b.toInt64 - 96) + c.toInt64 - 96) + d.toInt64 - 96)), w) := by
  simp only [pe106, z106_0, z106_3, z106_4, z106_5, z106_6, z106_9, z106_10, z106_11, z106_12, z106_13, z106_16, z106_17, pm_kv_some, pm_kw_some, pm_k_some, pm_k_void, pm_vc_some, pm_kl_some, q_three]
theorem q_five {w : pm_H} {a b c d e : Int32} : pm_call 108 [.int a, .int b, .int c, .int d, .int e] w = some (some (.long (729 * (27 * (27 * (a.toInt64 - 96) + b.toInt64 - 96) + c.toInt64 - 96) + 27 * (d.toInt64 - 96) + e.toInt64 - 96)), w) := by
  simp only [pe108, z108_0, z108_3, z108_4, z108_5, z108_6, z108_9, z108_10, z108_13, z108_14, z108_15, z108_18, z108_19, z108_20, z108_21, z108_23, z108_24, z108_25, z108_28, z108_29, pm_kv_some, pm_kw_some, pm_k_some, pm_k_void, pm_vc_some, pm_kl_some, q_three]
theorem q_shares {w : pm_H} : pm_call 99 [.int 115, .int 104, .int 97, .int 114, .int 101, .int 115] w = some (some (.long (lN (tz_hd (tz_cd 0) (tz_ln 0)))), w) := q_six
theorem q_quarte {w : pm_H} : pm_call 99 [.int 113, .int 117, .int 97, .int 114, .int 116, .int 101] w = some (some (.long (lN (tz_hd (tz_cd 1) 6))), w) := q_six
theorem q_quarter7 : (27 : Int64) * lN (tz_hd (tz_cd 1) 6) + 18 = lN (tz_hd (tz_cd 1) (tz_ln 1)) := rfl
theorem q_loss {w : pm_H} : pm_call 106 [.int 108, .int 111, .int 115, .int 115] w = some (some (.long (lN (tz_hd (tz_cd 2) (tz_ln 2)))), w) := q_four
theorem q_profit {w : pm_H} : pm_call 99 [.int 112, .int 114, .int 111, .int 102, .int 105, .int 116] w = some (some (.long (lN (tz_hd (tz_cd 3) (tz_ln 3)))), w) := q_six
theorem q_price {w : pm_H} : pm_call 108 [.int 112, .int 114, .int 105, .int 99, .int 101] w = some (some (.long (lN (tz_hd (tz_cd 4) (tz_ln 4)))), w) := q_five
theorem q_issue {w : pm_H} : pm_call 108 [.int 105, .int 115, .int 115, .int 117, .int 101] w = some (some (.long (lN (tz_hd (tz_cd 5) (tz_ln 5)))), w) := q_five
theorem q_buy {w : pm_H} : pm_call 100 [.int 98, .int 117, .int 121] w = some (some (.long (lN (tz_hd (tz_cd 6) (tz_ln 6)))), w) := q_three
theorem q_split {w : pm_H} : pm_call 108 [.int 115, .int 112, .int 108, .int 105, .int 116] w = some (some (.long (lN (tz_hd (tz_cd 7) (tz_ln 7)))), w) := q_five
theorem q_option {w : pm_H} : pm_call 99 [.int 111, .int 112, .int 116, .int 105, .int 111, .int 110] w = some (some (.long (lN (tz_hd (tz_cd 8) (tz_ln 8)))), w) := q_six
theorem q_bond {w : pm_H} : pm_call 106 [.int 98, .int 111, .int 110, .int 100] w = some (some (.long (lN (tz_hd (tz_cd 9) (tz_ln 9)))), w) := q_four
theorem q_earn {w : pm_H} : pm_call 106 [.int 101, .int 97, .int 114, .int 110] w = some (some (.long (lN (tz_hd (tz_cd 10) (tz_ln 10)))), w) := q_four
end PMW
