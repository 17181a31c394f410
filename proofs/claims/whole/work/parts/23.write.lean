/-! WRITING: the Year at y, the Tape at 10, the History at 60 -/
def ab_y (f0 : Int32) (p1 p2 : Nat → Int32) (f3 : Int32) (p4 p5 p6 : Nat → Int32) (f7 : Int32) (p8 p9 p10 p11 : Nat → Int32) (j : Nat) : Nat → Int32 := match j with
  | 0 => fun _ => f0
  | 1 => p1
  | 2 => p2
  | 3 => fun _ => f3
  | 4 => p4
  | 5 => p5
  | 6 => p6
  | 7 => fun _ => f7
  | 8 => p8
  | 9 => p9
  | 10 => p10
  | _ => p11
def pm_Yw (w : pm_H) (y : Nat) (f0 : Int32) (p1 p2 : Nat → Int32) (f3 : Int32) (p4 p5 p6 : Nat → Int32) (f7 : Int32) (p8 p9 p10 p11 : Nat → Int32) : pm_H := fun k =>
  if k = y then some (.inr (4, [.int f0, .ref (y + 2), .ref (y + 3), .int f3, .ref (y + 5), .ref (y + 6), .ref (y + 7), .int f7, .ref (y + 9), .ref (y + 10), .ref (y + 11), .ref (y + 12)]))
  else if k = y + 2 then some (.inl (0, 4, .inl p1)) else if k = y + 3 then some (.inl (0, 4, .inl p2))
  else if k = y + 5 then some (.inl (0, 20, .inl p4)) else if k = y + 6 then some (.inl (0, 20, .inl p5)) else if k = y + 7 then some (.inl (0, 20, .inl p6))
  else if k = y + 9 then some (.inl (0, 8, .inl p8)) else if k = y + 10 then some (.inl (0, 8, .inl p9)) else if k = y + 11 then some (.inl (0, 8, .inl p10)) else if k = y + 12 then some (.inl (0, 8, .inl p11)) else w k
section PMY
variable {w : pm_H} {y : Nat} {f0 f3 f7 f0' f3' f7' : Int32} {p1 p2 p4 p5 p6 p8 p9 p10 p11 q : Nat → Int32}
theorem yw0 : pm_Yw w y f0 p1 p2 f3 p4 p5 p6 f7 p8 p9 p10 p11 y = some (.inr (4, [.int f0, .ref (y + 2), .ref (y + 3), .int f3, .ref (y + 5), .ref (y + 6), .ref (y + 7), .int f7, .ref (y + 9), .ref (y + 10), .ref (y + 11), .ref (y + 12)])) := by simp [pm_Yw]
theorem yw2 : pm_Yw w y f0 p1 p2 f3 p4 p5 p6 f7 p8 p9 p10 p11 (y + 2) = some (.inl (0, 4, .inl p1)) := by simp [pm_Yw]
theorem yw3 : pm_Yw w y f0 p1 p2 f3 p4 p5 p6 f7 p8 p9 p10 p11 (y + 3) = some (.inl (0, 4, .inl p2)) := by simp [pm_Yw]
theorem yw5 : pm_Yw w y f0 p1 p2 f3 p4 p5 p6 f7 p8 p9 p10 p11 (y + 5) = some (.inl (0, 20, .inl p4)) := by simp [pm_Yw]
theorem yw6 : pm_Yw w y f0 p1 p2 f3 p4 p5 p6 f7 p8 p9 p10 p11 (y + 6) = some (.inl (0, 20, .inl p5)) := by simp [pm_Yw]
theorem yw7 : pm_Yw w y f0 p1 p2 f3 p4 p5 p6 f7 p8 p9 p10 p11 (y + 7) = some (.inl (0, 20, .inl p6)) := by simp [pm_Yw]
theorem yw9 : pm_Yw w y f0 p1 p2 f3 p4 p5 p6 f7 p8 p9 p10 p11 (y + 9) = some (.inl (0, 8, .inl p8)) := by simp [pm_Yw]
theorem yw10 : pm_Yw w y f0 p1 p2 f3 p4 p5 p6 f7 p8 p9 p10 p11 (y + 10) = some (.inl (0, 8, .inl p9)) := by simp [pm_Yw]
theorem yw11 : pm_Yw w y f0 p1 p2 f3 p4 p5 p6 f7 p8 p9 p10 p11 (y + 11) = some (.inl (0, 8, .inl p10)) := by simp [pm_Yw]
theorem yw12 : pm_Yw w y f0 p1 p2 f3 p4 p5 p6 f7 p8 p9 p10 p11 (y + 12) = some (.inl (0, 8, .inl p11)) := by simp [pm_Yw]
theorem ywo {k : Nat} (h : k < y ∨ y + 12 < k) : pm_Yw w y f0 p1 p2 f3 p4 p5 p6 f7 p8 p9 p10 p11 k = w k := by
  unfold pm_Yw
  rw [if_neg (by omega), if_neg (by omega), if_neg (by omega), if_neg (by omega), if_neg (by omega), if_neg (by omega), if_neg (by omega), if_neg (by omega), if_neg (by omega), if_neg (by omega)]
theorem ywr : pm_Yr (pm_Yw w y f0 p1 p2 f3 p4 p5 p6 f7 p8 p9 p10 p11) y (ab_y f0 p1 p2 f3 p4 p5 p6 f7 p8 p9 p10 p11) := ⟨yw0, yw2, yw3, yw5, yw6, yw7, yw9, yw10, yw11, yw12⟩
theorem ywe {Y : Nat → Nat → Int32} (h : pm_Yr w y Y) : pm_Yw w y (Y 0 0) (Y 1) (Y 2) (Y 3 0) (Y 4) (Y 5) (Y 6) (Y 7 0) (Y 8) (Y 9) (Y 10) (Y 11) = w := by
  obtain ⟨h0, h1, h2, h4, h5, h6, h8, h9, h10, h11⟩ := h
  funext k
  unfold pm_Yw
  by_cases e : k = y
  · subst e; rw [if_pos rfl, h0]
  rw [if_neg e]
  by_cases e : k = y + 2
  · subst e; rw [if_pos rfl, h1]
  rw [if_neg e]
  by_cases e : k = y + 3
  · subst e; rw [if_pos rfl, h2]
  rw [if_neg e]
  by_cases e : k = y + 5
  · subst e; rw [if_pos rfl, h4]
  rw [if_neg e]
  by_cases e : k = y + 6
  · subst e; rw [if_pos rfl, h5]
  rw [if_neg e]
  by_cases e : k = y + 7
  · subst e; rw [if_pos rfl, h6]
  rw [if_neg e]
  by_cases e : k = y + 9
  · subst e; rw [if_pos rfl, h8]
  rw [if_neg e]
  by_cases e : k = y + 10
  · subst e; rw [if_pos rfl, h9]
  rw [if_neg e]
  by_cases e : k = y + 11
  · subst e; rw [if_pos rfl, h10]
  rw [if_neg e]
  by_cases e : k = y + 12
  · subst e; rw [if_pos rfl, h11]
  rw [if_neg e]
theorem yu0 : pm_up (pm_Yw w y f0 p1 p2 f3 p4 p5 p6 f7 p8 p9 p10 p11) y (.inr (4, [.int f0', .ref (y + 2), .ref (y + 3), .int f3', .ref (y + 5), .ref (y + 6), .ref (y + 7), .int f7', .ref (y + 9), .ref (y + 10), .ref (y + 11), .ref (y + 12)])) = pm_Yw w y f0' p1 p2 f3' p4 p5 p6 f7' p8 p9 p10 p11 := by
  funext k; unfold pm_up pm_Yw; by_cases h : k = y <;> simp [h]
theorem yu2 : pm_up (pm_Yw w y f0 p1 p2 f3 p4 p5 p6 f7 p8 p9 p10 p11) (y + 2) (.inl (0, 4, .inl q)) = pm_Yw w y f0 q p2 f3 p4 p5 p6 f7 p8 p9 p10 p11 := by
  funext k; unfold pm_up pm_Yw; by_cases h : k = y + 2 <;> simp [h]
theorem yu3 : pm_up (pm_Yw w y f0 p1 p2 f3 p4 p5 p6 f7 p8 p9 p10 p11) (y + 3) (.inl (0, 4, .inl q)) = pm_Yw w y f0 p1 q f3 p4 p5 p6 f7 p8 p9 p10 p11 := by
  funext k; unfold pm_up pm_Yw; by_cases h : k = y + 3 <;> simp [h]
theorem yu5 : pm_up (pm_Yw w y f0 p1 p2 f3 p4 p5 p6 f7 p8 p9 p10 p11) (y + 5) (.inl (0, 20, .inl q)) = pm_Yw w y f0 p1 p2 f3 q p5 p6 f7 p8 p9 p10 p11 := by
  funext k; unfold pm_up pm_Yw; by_cases h : k = y + 5 <;> simp [h]
theorem yu6 : pm_up (pm_Yw w y f0 p1 p2 f3 p4 p5 p6 f7 p8 p9 p10 p11) (y + 6) (.inl (0, 20, .inl q)) = pm_Yw w y f0 p1 p2 f3 p4 q p6 f7 p8 p9 p10 p11 := by
  funext k; unfold pm_up pm_Yw; by_cases h : k = y + 6 <;> simp [h]
theorem yu7 : pm_up (pm_Yw w y f0 p1 p2 f3 p4 p5 p6 f7 p8 p9 p10 p11) (y + 7) (.inl (0, 20, .inl q)) = pm_Yw w y f0 p1 p2 f3 p4 p5 q f7 p8 p9 p10 p11 := by
  funext k; unfold pm_up pm_Yw; by_cases h : k = y + 7 <;> simp [h]
theorem yu9 : pm_up (pm_Yw w y f0 p1 p2 f3 p4 p5 p6 f7 p8 p9 p10 p11) (y + 9) (.inl (0, 8, .inl q)) = pm_Yw w y f0 p1 p2 f3 p4 p5 p6 f7 q p9 p10 p11 := by
  funext k; unfold pm_up pm_Yw; by_cases h : k = y + 9 <;> simp [h]
theorem yu10 : pm_up (pm_Yw w y f0 p1 p2 f3 p4 p5 p6 f7 p8 p9 p10 p11) (y + 10) (.inl (0, 8, .inl q)) = pm_Yw w y f0 p1 p2 f3 p4 p5 p6 f7 p8 q p10 p11 := by
  funext k; unfold pm_up pm_Yw; by_cases h : k = y + 10 <;> simp [h]
theorem yu11 : pm_up (pm_Yw w y f0 p1 p2 f3 p4 p5 p6 f7 p8 p9 p10 p11) (y + 11) (.inl (0, 8, .inl q)) = pm_Yw w y f0 p1 p2 f3 p4 p5 p6 f7 p8 p9 q p11 := by
  funext k; unfold pm_up pm_Yw; by_cases h : k = y + 11 <;> simp [h]
theorem yu12 : pm_up (pm_Yw w y f0 p1 p2 f3 p4 p5 p6 f7 p8 p9 p10 p11) (y + 12) (.inl (0, 8, .inl q)) = pm_Yw w y f0 p1 p2 f3 p4 p5 p6 f7 p8 p9 p10 q := by
  funext k; unfold pm_up pm_Yw; by_cases h : k = y + 12 <;> simp [h]
theorem q_addEvent {n : Nat} {s d u : Int32} (hn : n < 20) : pm_call 37 [.ref y, .int s, .int d, .int u] (pm_Yw w y f0 p1 p2 (nI n) p4 p5 p6 f7 p8 p9 p10 p11) = some (none, pm_Yw w y f0 p1 p2 (nI (n + 1)) (upd p4 n s) (upd p5 n d) (upd p6 n u) f7 p8 p9 p10 p11) := by
  have hin : vp_in (nI n) 20 := vp_in_nI hn (by omega)
  simp only [pe37, z37_0, z37_1, z37_4, z37_6, pm_kv_some, pm_kw_some, pm_k_some, pm_k_void, pm_vc_some, pm_kl_some, pg4_0, pg4_1, pg4_2, pg4_3, pg4_4, pg4_5, pg4_6, pg4_7, pg4_8, pg4_9, pg4_10, pg4_11, yw0]
  rw [if_pos (show nI n < 20 from nI_lt (b := 20) hn (by omega))]
  simp only [z37_9, z37_10, z37_13, z37_14, z37_17, z37_18, z37_19, z37_20, z37_23, z37_24, z37_27, z37_28, z37_29, z37_30, z37_33, z37_34, z37_37, z37_38, z37_39, z37_40, z37_41, z37_44, z37_45, z37_46, z37_49, pm_kv_some, pm_kw_some, pm_k_some, pm_k_void, pm_vc_some, pm_kl_some, pg4_0, pg4_1, pg4_2, pg4_3, pg4_4, pg4_5, pg4_6, pg4_7, pg4_8, pg4_9, pg4_10, pg4_11, pp4_0, pp4_3, pp4_7, yw0, yw5, yw6, yw7, pm_is_in hin, nI_clamp (show n < 2 ^ 31 by omega), yu5, yu6, yu7, yu0, nI_1]
theorem q_dropEvent {n : Nat} (hn : 0 < n) (h20 : n ≤ 20) : pm_call 44 [.ref y] (pm_Yw w y f0 p1 p2 (nI n) p4 p5 p6 f7 p8 p9 p10 p11) = some (none, pm_Yw w y f0 p1 p2 (nI (n - 1)) p4 p5 p6 f7 p8 p9 p10 p11) := by
  obtain ⟨j, rfl⟩ : ∃ j, n = j + 1 := ⟨n - 1, by omega⟩
  simp only [pe44, z44_0, z44_1, z44_4, pm_kv_some, pm_kw_some, pm_k_some, pm_k_void, pm_vc_some, pm_kl_some, pg4_0, pg4_1, pg4_2, pg4_3, pg4_4, pg4_5, pg4_6, pg4_7, pg4_8, pg4_9, pg4_10, pg4_11, yw0]
  rw [if_pos (by rw [← nI_0]; exact nI_lt (by omega) (by omega))]
  simp only [z44_7, z44_8, z44_9, z44_12, z44_13, z44_14, z44_17, pm_kv_some, pm_kw_some, pm_k_some, pm_k_void, pm_vc_some, pm_kl_some, pg4_0, pg4_1, pg4_2, pg4_3, pg4_4, pg4_5, pg4_6, pg4_7, pg4_8, pg4_9, pg4_10, pg4_11, pp4_0, pp4_3, pp4_7, yw0, yu0, nI_pred, Nat.add_sub_cancel]
theorem q_addInstrument {n : Nat} {s d u t : Int32} (hn : n < 8) : pm_call 39 [.ref y, .int s, .int d, .int u, .int t] (pm_Yw w y f0 p1 p2 f3 p4 p5 p6 (nI n) p8 p9 p10 p11) = some (none, pm_Yw w y f0 p1 p2 f3 p4 p5 p6 (nI (n + 1)) (upd p8 n s) (upd p9 n d) (upd p10 n u) (upd p11 n t)) := by
  have hin : vp_in (nI n) 8 := vp_in_nI hn (by omega)
  simp only [pe39, z39_0, z39_1, z39_4, z39_6, pm_kv_some, pm_kw_some, pm_k_some, pm_k_void, pm_vc_some, pm_kl_some, pg4_0, pg4_1, pg4_2, pg4_3, pg4_4, pg4_5, pg4_6, pg4_7, pg4_8, pg4_9, pg4_10, pg4_11, yw0]
  rw [if_pos (show nI n < 8 from nI_lt (b := 8) hn (by omega))]
  simp only [z39_9, z39_10, z39_13, z39_14, z39_17, z39_18, z39_19, z39_20, z39_23, z39_24, z39_27, z39_28, z39_29, z39_30, z39_33, z39_34, z39_37, z39_38, z39_39, z39_40, z39_43, z39_44, z39_47, z39_49, z39_50, z39_51, z39_52, z39_55, z39_56, z39_57, z39_60, pm_kv_some, pm_kw_some, pm_k_some, pm_k_void, pm_vc_some, pm_kl_some, pg4_0, pg4_1, pg4_2, pg4_3, pg4_4, pg4_5, pg4_6, pg4_7, pg4_8, pg4_9, pg4_10, pg4_11, pp4_0, pp4_3, pp4_7, yw0, yw9, yw10, yw11, yw12, pm_is_in hin, nI_clamp (show n < 2 ^ 31 by omega), yu9, yu10, yu11, yu12, yu0, nI_1]
theorem q_dropInstrument {n : Nat} (hn : 0 < n) (h20 : n ≤ 8) : pm_call 45 [.ref y] (pm_Yw w y f0 p1 p2 f3 p4 p5 p6 (nI n) p8 p9 p10 p11) = some (none, pm_Yw w y f0 p1 p2 f3 p4 p5 p6 (nI (n - 1)) p8 p9 p10 p11) := by
  obtain ⟨j, rfl⟩ : ∃ j, n = j + 1 := ⟨n - 1, by omega⟩
  simp only [pe45, z45_0, z45_1, z45_4, pm_kv_some, pm_kw_some, pm_k_some, pm_k_void, pm_vc_some, pm_kl_some, pg4_0, pg4_1, pg4_2, pg4_3, pg4_4, pg4_5, pg4_6, pg4_7, pg4_8, pg4_9, pg4_10, pg4_11, yw0]
  rw [if_pos (by rw [← nI_0]; exact nI_lt (by omega) (by omega))]
  simp only [z45_7, z45_8, z45_9, z45_12, z45_13, z45_14, z45_17, pm_kv_some, pm_kw_some, pm_k_some, pm_k_void, pm_vc_some, pm_kl_some, pg4_0, pg4_1, pg4_2, pg4_3, pg4_4, pg4_5, pg4_6, pg4_7, pg4_8, pg4_9, pg4_10, pg4_11, pp4_0, pp4_3, pp4_7, yw0, yu0, nI_pred, Nat.add_sub_cancel]
def ab_fill (p : Nat → Int32) (v : Int32) (n : Nat) : Nat → Int32 := fun k => if k < n then v else p k
theorem ab_fill_s {p : Nat → Int32} {v : Int32} {n : Nat} : upd (ab_fill p v n) n v = ab_fill p v (n + 1) := by
  funext k
  unfold upd ab_fill
  by_cases h : k = n
  · subst h; simp
  · by_cases h2 : k < n
    · simp [h, h2, show k < n + 1 by omega]
    · simp [h, h2, show ¬ k < n + 1 by omega]
theorem ab_fill_0 {p : Nat → Int32} {v : Int32} : ab_fill p v 0 = p := by
  funext k; simp [ab_fill]
theorem q_reset_loop : ∀ (m k : Nat), k + m = 4 → pm_ev 29 7 [some (.ref y), some (.int (nI k))] [] (pm_Yw w y f0 (ab_fill p1 0 k) (ab_fill p2 1 k) f3 p4 p5 p6 f7 p8 p9 p10 p11) = some (none, pm_Yw w y f0 (ab_fill p1 0 4) (ab_fill p2 1 4) 0 p4 p5 p6 0 p8 p9 p10 p11) := by
  intro m
  induction m with
  | zero =>
    intro k hk
    have : k = 4 := by omega
    subst this
    simp only [z29_7, z29_8, z29_9]
    rw [if_neg (show ¬ nI 4 < 4 from nI_nlt (b := 4) (by omega) (by omega))]
    simp only [z29_32, z29_33, z29_34, z29_37, z29_38, z29_39, z29_42, pm_kv_some, pm_kw_some, pm_k_some, pm_k_void, pm_vc_some, pm_kl_some, pp4_0, pp4_3, pp4_7, yw0, yu0]
  | succ m ih =>
    intro k hk
    have hin : vp_in (nI k) 4 := vp_in_nI (by omega) (by omega)
    simp only [z29_7, z29_8, z29_9]
    rw [if_pos (show nI k < 4 from nI_lt (b := 4) (by omega) (by omega))]
    simp only [z29_12, z29_13, z29_16, z29_17, z29_18, z29_19, z29_20, z29_23, z29_24, z29_25, z29_26, z29_29, pm_kv_some, pm_kw_some, pm_k_some, pm_k_void, pm_vc_some, pm_kl_some, pg4_0, pg4_1, pg4_2, pg4_3, pg4_4, pg4_5, pg4_6, pg4_7, pg4_8, pg4_9, pg4_10, pg4_11, yw0, yw2, yw3, pm_is_in hin, nI_clamp (show k < 2 ^ 31 by omega), yu2, yu3, nI_1, ab_fill_s]
    exact ih _ (by omega)
theorem q_reset : pm_call 29 [.ref y] (pm_Yw w y f0 p1 p2 f3 p4 p5 p6 f7 p8 p9 p10 p11) = some (none, pm_Yw w y 1 (ab_fill p1 0 4) (ab_fill p2 1 4) 0 p4 p5 p6 0 p8 p9 p10 p11) := by
  have h := q_reset_loop (w := w) (y := y) (f0 := 1) (f3 := f3) (f7 := f7) (p1 := p1) (p2 := p2) (p4 := p4) (p5 := p5) (p6 := p6) (p8 := p8) (p9 := p9) (p10 := p10) (p11 := p11) 4 0 (by omega)
  rw [ab_fill_0, ab_fill_0] at h
  simp only [pe29, z29_0, z29_1, z29_2, z29_5, z29_6, pm_kv_some, pm_kw_some, pm_k_some, pm_k_void, pm_vc_some, pm_kl_some, pp4_0, pp4_3, pp4_7, yw0, yu0]
  exact h
end PMY
/-! the Tape -/
def pm_Tw (w : pm_H) (B : Nat → Int32) (t : Int32) : pm_H := fun k => if k = 10 then some (.inr (3, [.ref 11, .int t])) else if k = 11 then some (.inl (2, 740, .inl B)) else w k
section PMT
variable {w : pm_H} {B B' : Nat → Int32} {t t' : Int32}
theorem tw10 : pm_Tw w B t 10 = some (.inr (3, [.ref 11, .int t])) := rfl
theorem tw11 : pm_Tw w B t 11 = some (.inl (2, 740, .inl B)) := rfl
theorem two {k : Nat} (h : k < 10 ∨ 11 < k) : pm_Tw w B t k = w k := by
  unfold pm_Tw
  rw [if_neg (by omega), if_neg (by omega)]
theorem tu10 : pm_up (pm_Tw w B t) 10 (.inr (3, [.ref 11, .int t'])) = pm_Tw w B t' := by
  funext k; unfold pm_up pm_Tw; by_cases h : k = 10 <;> simp [h]
theorem tu11 : pm_up (pm_Tw w B t) 11 (.inl (2, 740, .inl B')) = pm_Tw w B' t := by
  funext k; unfold pm_up pm_Tw; by_cases h : k = 11
  · subst h; rfl
  · simp [h]
theorem twe (h1 : w 10 = some (.inr (3, [.ref 11, .int t]))) (h2 : w 11 = some (.inl (2, 740, .inl B))) : pm_Tw w B t = w := by
  funext k; unfold pm_Tw
  by_cases e : k = 10
  · subst e; rw [if_pos rfl, h1]
  rw [if_neg e]
  by_cases e : k = 11
  · subst e; rw [if_pos rfl, h2]
  rw [if_neg e]
theorem q_hasRoom : pm_call 27 [.ref 10] (pm_Tw w B t) = some (some (.int (if 740 < t + 20 then 0 else 1)), pm_Tw w B t) := by
  simp only [pe27, z27_0, z27_1, z27_4, z27_6, z27_7, z27_10, z27_13, z27_14, z27_17, z27_18, pm_kv_some, pm_kw_some, pm_k_some, pm_k_void, pm_vc_some, pm_kl_some, pg3_0, pg3_1, tw10, pm_zr0, pm_zr1]
  split <;> rfl
def ab_by (v s : Int32) : Int32 := (v >>> (s &&& 31)).toInt8.toInt32
theorem q_put_step {n : Nat} {v s : Int32} (hn : n < 740) (hs : ¬ s < 0) : pm_ev 28 3 [some (.ref 10), some (.int v), some (.int s)] [] (pm_Tw w B (nI n)) = pm_ev 28 3 [some (.ref 10), some (.int v), some (.int (s + -8))] [] (pm_Tw w (upd B n (ab_by v s)) (nI (n + 1))) := by
  have hin : vp_in (nI n) 740 := vp_in_nI hn (by omega)
  conv => lhs; rw [z28_3, z28_4]
  rw [if_neg hs]
  simp only [z28_7, z28_8, z28_11, z28_14, pm_kv_some, pm_kw_some, pm_k_some, pm_k_void, pm_vc_some, pm_kl_some, pg3_0, pg3_1, tw10]
  rw [if_pos (show nI n < 740 from nI_lt (b := 740) hn (by omega))]
  simp only [z28_17, z28_18, z28_21, z28_22, z28_25, z28_26, z28_27, z28_28, z28_29, z28_30, z28_31, z28_32, z28_35, z28_36, z28_37, z28_40, z28_43, pm_kv_some, pm_kw_some, pm_k_some, pm_k_void, pm_vc_some, pm_kl_some, pg3_0, pg3_1, pp3_1, tw10, tw11, pm_bs_in hin, nI_clamp (show n < 2 ^ 31 by omega), tu11, tu10, nI_1, pk_vb, ab_by]
theorem q_put {n : Nat} {v : Int32} (hn : n + 4 ≤ 740) : pm_call 28 [.ref 10, .int v] (pm_Tw w B (nI n)) = some (none, pm_Tw w (upd (upd (upd (upd B n (ab_by v 24)) (n + 1) (ab_by v 16)) (n + 2) (ab_by v 8)) (n + 3) (ab_by v 0)) (nI (n + 4))) := by
  simp only [pe28, z28_0, z28_2]
  rw [q_put_step (by omega) (by decide), show (24 : Int32) + -8 = 16 from rfl, q_put_step (by omega) (by decide), show (16 : Int32) + -8 = 8 from rfl, q_put_step (by omega) (by decide), show (8 : Int32) + -8 = 0 from rfl, q_put_step (by omega) (by decide), z28_3, z28_4, if_pos (by decide), z28_46]
end PMT
/-! the History -/
theorem pm_cl9 : (9 : Int32).toNatClampNeg = 9 := rfl
def pm_Hw (w : pm_H) (c : Int32) (K Q F : Nat → Int32) : pm_H := fun k => if k = 60 then some (.inr (1, [.int c, .ref 62, .ref 63, .ref 64])) else if k = 62 then some (.inl (0, 10, .inl K)) else if k = 63 then some (.inl (0, 10, .inl Q)) else if k = 64 then some (.inl (0, 10, .inl F)) else w k
section PMHS
variable {w : pm_H} {c c' : Int32} {K Q F K' : Nat → Int32}
theorem hw60 : pm_Hw w c K Q F 60 = some (.inr (1, [.int c, .ref 62, .ref 63, .ref 64])) := rfl
theorem hw62 : pm_Hw w c K Q F 62 = some (.inl (0, 10, .inl K)) := rfl
theorem hw63 : pm_Hw w c K Q F 63 = some (.inl (0, 10, .inl Q)) := rfl
theorem hw64 : pm_Hw w c K Q F 64 = some (.inl (0, 10, .inl F)) := rfl
theorem hwo {k : Nat} (h : k < 60 ∨ 64 < k) : pm_Hw w c K Q F k = w k := by
  unfold pm_Hw
  rw [if_neg (by omega), if_neg (by omega), if_neg (by omega), if_neg (by omega)]
theorem hu60 : pm_up (pm_Hw w c K Q F) 60 (.inr (1, [.int c', .ref 62, .ref 63, .ref 64])) = pm_Hw w c' K Q F := by
  funext k; unfold pm_up pm_Hw; by_cases h : k = 60 <;> simp [h]
theorem hu62 : pm_up (pm_Hw w c K Q F) 62 (.inl (0, 10, .inl K')) = pm_Hw w c K' Q F := by
  funext k; unfold pm_up pm_Hw; by_cases h : k = 62
  · subst h; rfl
  · simp [h]
theorem hu63 : pm_up (pm_Hw w c K Q F) 63 (.inl (0, 10, .inl K')) = pm_Hw w c K K' F := by
  funext k; unfold pm_up pm_Hw; by_cases h : k = 63
  · subst h; rfl
  · simp [h]
theorem hu64 : pm_up (pm_Hw w c K Q F) 64 (.inl (0, 10, .inl K')) = pm_Hw w c K Q K' := by
  funext k; unfold pm_up pm_Hw; by_cases h : k = 64
  · subst h; rfl
  · simp [h]
theorem hwe (h1 : w 60 = some (.inr (1, [.int c, .ref 62, .ref 63, .ref 64]))) (h2 : w 62 = some (.inl (0, 10, .inl K))) (h3 : w 63 = some (.inl (0, 10, .inl Q))) (h4 : w 64 = some (.inl (0, 10, .inl F))) : pm_Hw w c K Q F = w := by
  funext k; unfold pm_Hw
  by_cases e : k = 60
  · subst e; rw [if_pos rfl, h1]
  rw [if_neg e]
  by_cases e : k = 62
  · subst e; rw [if_pos rfl, h2]
  rw [if_neg e]
  by_cases e : k = 63
  · subst e; rw [if_pos rfl, h3]
  rw [if_neg e]
  by_cases e : k = 64
  · subst e; rw [if_pos rfl, h4]
  rw [if_neg e]
def ab_so (j : Nat) (K : Nat → Int32) : Nat → Int32 := fun t => if t + 1 < j then K (t + 1) else K t
theorem ab_so_s {j : Nat} {K : Nat → Int32} : upd (ab_so (j + 1) K) j (K (j + 1)) = ab_so (j + 2) K := by
  funext t
  unfold upd ab_so
  by_cases h : t = j
  · subst h; simp
  · by_cases h2 : t < j
    · simp [h, show t + 1 < j + 1 by omega, show t + 1 < j + 2 by omega]
    · simp [h, show ¬ t + 1 < j + 1 by omega, show ¬ t + 1 < j + 2 by omega]
theorem ab_so_j {j : Nat} {K : Nat → Int32} : ab_so (j + 1) K (j + 1) = K (j + 1) := by unfold ab_so; rw [if_neg (by omega)]
theorem ab_so_1 {K : Nat → Int32} : ab_so 1 K = K := by funext t; simp [ab_so]
theorem q_fo_loop : ∀ (m j : Nat), j + 1 + m = 10 → pm_ev 10 2 [some (.ref 60), some (.int (nI (j + 1)))] [] (pm_Hw w c (ab_so (j + 1) K) (ab_so (j + 1) Q) (ab_so (j + 1) F)) = some (none, pm_Hw w 9 (ab_so 10 K) (ab_so 10 Q) (ab_so 10 F)) := by
  intro m
  induction m with
  | zero =>
    intro j hj
    have : j = 9 := by omega
    subst this
    simp only [z10_2, z10_3, z10_5]
    rw [if_neg (show ¬ nI (9 + 1) < 10 from nI_nlt (b := 10) (by omega) (by omega))]
    simp only [z10_56, z10_57, z10_59, z10_62, pm_kv_some, pm_kw_some, pm_k_some, pm_k_void, pm_vc_some, pm_kl_some, pp1_0, hw60, hu60]
  | succ m ih =>
    intro j hj
    have h1 : vp_in (nI (j + 1)) 10 := vp_in_nI (by omega) (by omega)
    have h2 : vp_in (nI j) 10 := vp_in_nI (by omega) (by omega)
    simp only [z10_2, z10_3, z10_5]
    rw [if_pos (show nI (j + 1) < 10 from nI_lt (b := 10) (by omega) (by omega))]
    simp only [z10_8, z10_9, z10_12, z10_13, z10_14, z10_15, z10_16, z10_19, z10_20, z10_21, z10_22, z10_23, z10_26, z10_27, z10_28, z10_29, z10_30, z10_33, z10_34, z10_35, z10_36, z10_37, z10_40, z10_41, z10_42, z10_43, z10_44, z10_47, z10_48, z10_49, z10_50, z10_53, pm_kv_some, pm_kw_some, pm_k_some, pm_k_void, pm_vc_some, pm_kl_some, pg1_0, pg1_1, pg1_2, pg1_3, hw60, hw62, hw63, hw64, nI_pred, pm_ia_in h1, pm_is_in h2, nI_clamp (show j + 1 < 2 ^ 31 by omega), nI_clamp (show j < 2 ^ 31 by omega), hu62, hu63, hu64, ab_so_j, ab_so_s, nI_1]
    exact ih (j + 1) (by omega)
theorem q_forgetOldest : pm_call 10 [.ref 60] (pm_Hw w c K Q F) = some (none, pm_Hw w 9 (ab_so 10 K) (ab_so 10 Q) (ab_so 10 F)) := by
  have h := q_fo_loop (w := w) (c := c) (K := K) (Q := Q) (F := F) 9 0 (by omega)
  rw [ab_so_1, ab_so_1, ab_so_1] at h
  simp only [pe10, z10_0, z10_1]
  exact h
theorem q_keep {n : Nat} {a b d : Int32} (hn : n < 10) : pm_call 9 [.ref 60, .int a, .int b, .int d] (pm_Hw w (nI n) K Q F) = some (none, pm_Hw w (nI (n + 1)) (upd K n a) (upd Q n b) (upd F n d)) := by
  have h1 : vp_in (nI n) 10 := vp_in_nI hn (by omega)
  simp only [pe9, z9_0, z9_1, z9_4, z9_6, pm_kv_some, pm_kw_some, pm_k_some, pm_k_void, pm_vc_some, pm_kl_some, pg1_0, pg1_1, pg1_2, pg1_3, hw60]
  rw [if_pos (show nI n < 10 from nI_lt (b := 10) hn (by omega))]
  simp only [z9_13, z9_14, z9_17, z9_18, z9_21, z9_22, z9_23, z9_24, z9_27, z9_28, z9_31, z9_32, z9_33, z9_34, z9_37, z9_38, z9_41, z9_42, z9_43, z9_44, z9_45, z9_48, z9_49, z9_50, z9_53, pm_kv_some, pm_kw_some, pm_k_some, pm_k_void, pm_vc_some, pm_kl_some, pg1_0, pg1_1, pg1_2, pg1_3, pp1_0, hw60, hw62, hw63, hw64, pm_is_in h1, nI_clamp (show n < 2 ^ 31 by omega), hu62, hu63, hu64, hu60, nI_1]
theorem q_keep10 {a b d : Int32} : pm_call 9 [.ref 60, .int a, .int b, .int d] (pm_Hw w (nI 10) K Q F) = some (none, pm_Hw w (nI 10) (upd (ab_so 10 K) 9 a) (upd (ab_so 10 Q) 9 b) (upd (ab_so 10 F) 9 d)) := by
  have h1 : vp_in 9 10 := vp_in_nI (n := 9) (by omega) (by omega)
  simp only [pe9, z9_0, z9_1, z9_4, z9_6, pm_kv_some, pm_kw_some, pm_k_some, pm_k_void, pm_vc_some, pm_kl_some, pg1_0, pg1_1, pg1_2, pg1_3, hw60]
  rw [if_neg (show ¬ nI 10 < 10 from nI_nlt (b := 10) (by omega) (by omega))]
  simp only [z9_9, z9_10, z9_13, z9_14, z9_17, z9_18, z9_21, z9_22, z9_23, z9_24, z9_27, z9_28, z9_31, z9_32, z9_33, z9_34, z9_37, z9_38, z9_41, z9_42, z9_43, z9_44, z9_45, z9_48, z9_49, z9_50, z9_53, pm_kv_some, pm_kw_some, pm_k_some, pm_k_void, pm_vc_some, pm_kl_some, pg1_0, pg1_1, pg1_2, pg1_3, pp1_0, hw60, hw62, hw63, hw64, q_forgetOldest, pm_is_in h1, pm_cl9, hu62, hu63, hu64, hu60]
  rfl
end PMHS
