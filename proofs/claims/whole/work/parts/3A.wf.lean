/-! WELL-FORMED YEARS: what keeps them so -/
theorem ab_ns_c {s s' : Nat → Int32} {n : Nat} (hs : ∀ k, k < n → s k = s' k) : ∀ (m k : Nat), k + m = n → ab_ns s m k = ab_ns s' m k := by
  intro m
  induction m with
  | zero => intro k _; rfl
  | succ m ih => intro k hk; unfold ab_ns; rw [hs k (by omega), ih _ (by omega)]
theorem ab_shI_c {Y Z : Nat → Nat → Int32} {n : Nat} (h0 : Y 0 0 = Z 0 0) (h4 : ∀ k, k < n → Y 4 k = Z 4 k) (h6 : ∀ k, k < n → Y 6 k = Z 6 k) : ∀ k, k ≤ n → ab_shI Y k = ab_shI Z k := by
  intro k
  induction k with
  | zero => intro _; unfold ab_shI; rw [h0]
  | succ k ih => intro hk; unfold ab_shI; rw [h4 k (by omega), h6 k (by omega), ih (by omega)]
theorem ab_wf.congr {Y Z : Nat → Nat → Int32} {n N : Nat} (h : ab_wf Y n N) (e : ab_le Y Z n N) : ab_wf Z n N := by
  refine ⟨⟨h.n20, h.N8, by rw [← e.h3]; exact h.hn, by rw [← e.h7]; exact h.hN⟩, by rw [← e.h0]; exact h.i0, fun q hq => ?_, fun k hk => ?_, fun j k hjk hk => ?_, ?_, fun k hk => ?_, fun i hi => ?_⟩
  · rw [← e.h1 q hq, ← e.h2 q hq]; exact h.iq q hq
  · rw [← e.h4 k hk, ← e.h5 k hk, ← e.h6 k hk]; exact h.ik k hk
  · rw [← e.h5 j (by omega), ← e.h5 k hk]; exact h.so j k hjk hk
  · rw [← ab_ns_c e.h4 n 0 (by omega)]; exact h.ns
  · rw [← ab_shI_c e.h0 e.h4 e.h6 k hk]; exact h.sh1 k hk
  · rw [← e.h8 i hi, ← e.h9 i hi, ← e.h10 i hi, ← e.h11 i hi]; exact h.ii i hi
section PW1
variable {Y : Nat → Nat → Int32} {n N : Nat}
theorem ab_wf.profit (h : ab_wf Y n N) {q : Nat} {v : Int32} (hv : ab_I v (-99999) 99999) : ab_wf (ab_set Y 1 (upd (Y 1) q v)) n N := by
  refine ⟨h.1, h.i0, fun k hk => ⟨?_, (h.iq k hk).2⟩, h.ik, h.so, h.ns, fun k hk => ?_, h.ii⟩
  · show ab_I (upd (Y 1) q v k) _ _
    by_cases e : k = q
    · subst e; rw [pk_us]; exact hv
    · rw [pk_un e]; exact (h.iq k hk).1
  · rw [← ab_shI_c (Y := Y) (Z := ab_set Y 1 (upd (Y 1) q v)) (n := n) rfl (fun _ _ => rfl) (fun _ _ => rfl) k hk]; exact h.sh1 k hk
theorem ab_wf.price (h : ab_wf Y n N) {q : Nat} {v : Int32} (hv : ab_I v 1 9999) : ab_wf (ab_set Y 2 (upd (Y 2) q v)) n N := by
  refine ⟨h.1, h.i0, fun k hk => ⟨(h.iq k hk).1, ?_⟩, h.ik, h.so, h.ns, fun k hk => ?_, h.ii⟩
  · show ab_I (upd (Y 2) q v k) _ _
    by_cases e : k = q
    · subst e; rw [pk_us]; exact hv
    · rw [pk_un e]; exact (h.iq k hk).2
  · rw [← ab_shI_c (Y := Y) (Z := ab_set Y 2 (upd (Y 2) q v)) (n := n) rfl (fun _ _ => rfl) (fun _ _ => rfl) k hk]; exact h.sh1 k hk
theorem ab_sc_ns {s : Nat → Int32} : ∀ (m k : Nat) (c : Int32), 0 ≤ c.toInt → c.toInt + m ≤ 1000 → (ab_sc s m k c).toInt = c.toInt + ab_ns s m k := by
  intro m
  induction m with
  | zero => intro k c _ _; unfold ab_sc ab_ns; omega
  | succ m ih =>
    intro k c h0 h1
    unfold ab_sc ab_ns
    by_cases e : s k = 2
    · have t : (c + 1).toInt = c.toInt + 1 := i3_add (by show _ ≤ c.toInt + 1; omega) (by show c.toInt + 1 ≤ _; omega)
      rw [if_pos e, if_pos e, ih _ _ (by omega) (by omega), t]; omega
    · rw [if_neg e, if_neg e, ih _ _ h0 (by omega)]; omega
theorem ab_sc_w (h : ab_wf Y n N) : (ab_sc (Y 4) n 0 0).toInt = ab_ns (Y 4) n 0 := by
  have h20 := h.n20
  have z : (0 : Int32).toInt = 0 := rfl
  rw [ab_sc_ns n 0 0 (by rw [z]; omega) (by rw [z]; omega), z]; omega
/-- the shares behind all events -/
theorem ab_sh_all (h : ab_wf Y n N) : (ab_sh (Y 4) (Y 5) (Y 6) 359 n 0 (Y 0 0)).toInt = ab_shI Y n := by
  obtain ⟨k', -, a2, a3, -, a5⟩ := ab_sh_k h (D := 359) n 0 (Y 0 0) (by omega) rfl
  have : k' = n := Classical.byContradiction fun c => by
    have h1 := a5 (by omega)
    have h2 := (h.ik k' (by omega)).2.1.2
    rw [i3_lt] at h1
    have h3 : (359 : Int) < (Y 5 k').toInt := h1
    omega
  rw [a3, this]
theorem ab_mn_i (a b : Int32) : (ab_mn a b).toInt = if b.toInt < a.toInt then b.toInt else a.toInt := by
  unfold ab_mn
  by_cases h : b < a
  · rw [if_pos h, if_pos (i3_lt.mp h)]
  · rw [if_neg h, if_neg (fun z => h (i3_lt.mpr z))]
theorem ab_ld_b (h : ab_wf Y n N) : 0 ≤ (ab_ld Y n).toInt ∧ (ab_ld Y n).toInt ≤ 359 ∧ ∀ k, k < n → (Y 5 k).toInt ≤ (ab_ld Y n).toInt := by
  unfold ab_ld
  by_cases e : n = 0
  · rw [if_pos e]; exact ⟨by decide, by decide, fun k hk => by omega⟩
  · rw [if_neg e]
    have := (h.ik (n - 1) (by omega)).2.1
    exact ⟨this.1, this.2, fun k hk => h.so k (n - 1) (by omega) (by omega)⟩
theorem ab_ld_nn (h : ab_wf Y n N) : ¬ ab_ld Y n < 0 := by
  have := (ab_ld_b h).1
  rw [i3_lt]
  show ¬ (ab_ld Y n).toInt < 0
  omega
theorem ab_wf.event (h : ab_wf Y n N) {s d u : Int32} (ht : ab_tok Y n s d u) (hr : ab_room Y n s) : ab_wf (ab_ev Y n s d u) (n + 1) N := by
  obtain ⟨t1, t2, t3, t4, t5, t6⟩ := ht
  obtain ⟨r1, r2⟩ := hr
  have h8 := h.N8
  have e4 : ∀ k, ab_ev Y n s d u 4 k = upd (Y 4) n s k := fun _ => rfl
  have e5 : ∀ k, ab_ev Y n s d u 5 k = upd (Y 5) n d k := fun _ => rfl
  have e6 : ∀ k, ab_ev Y n s d u 6 k = upd (Y 6) n u k := fun _ => rfl
  have is : ab_I s 0 2 := by
    rw [i3_lt] at t1 t2
    exact ⟨by have : ¬ s.toInt < (0 : Int) := t1; omega, by have : ¬ (2 : Int) < s.toInt := t2; omega⟩
  have ld := ab_ld_b h
  have idd : ab_I d 0 359 := by
    rw [i3_lt] at t3 t4
    exact ⟨by omega, by have : ¬ (359 : Int) < d.toInt := t4; omega⟩
  have dl : (ab_ld Y n).toInt ≤ d.toInt := by rw [i3_lt] at t3; omega
  rw [i3_lt] at t5 t6
  have i2 : s = 2 → ab_I u 2 9 := by
    intro e
    rw [if_pos e] at t5
    unfold ab_mo at t6
    rw [if_pos e] at t6
    exact ⟨by have : ¬ u.toInt < (2 : Int) := t5; omega, by have : ¬ (9 : Int) < u.toInt := t6; omega⟩
  have i1 : ¬ s = 2 → 1 ≤ u.toInt := by
    intro e; rw [if_neg e] at t5
    have : ¬ u.toInt < (1 : Int) := t5; omega
  have shn := h.sh1 n (Nat.le_refl _)
  have sha := ab_sh_all h
  have shu := ab_shI_u h (Nat.le_refl n)
  have o1 : (1 : Int32).toInt = 1 := rfl
  have ib : s = 1 → u.toInt ≤ 99999 ∧ u.toInt ≤ ab_shI Y n - 1 := by
    intro e
    unfold ab_mo at t6
    rw [if_neg (by rw [e]; decide), if_pos e, ab_mn_i, i3_sub (by rw [sha, o1]; omega) (by rw [sha, o1]; omega), sha, o1] at t6
    have m9 : (99999 : Int32).toInt = 99999 := rfl
    rw [m9] at t6
    split at t6 <;> omega
  have iu : ab_I u 1 99999 := by
    by_cases e2 : s = 2
    · have := i2 e2; exact ⟨by have := this.1; omega, by have := this.2; omega⟩
    · refine ⟨i1 e2, ?_⟩
      by_cases e1 : s = 1
      · exact (ib e1).1
      · unfold ab_mo at t6
        rw [if_neg e2, if_neg e1] at t6
        have : ¬ (99999 : Int) < u.toInt := t6
        omega
  have cshI : ∀ k, k ≤ n → ab_shI (ab_ev Y n s d u) k = ab_shI Y k := fun k hk =>
    ab_shI_c (Y := ab_ev Y n s d u) (Z := Y) (n := n) rfl (fun j hj => by rw [e4, pk_un (by omega)]) (fun j hj => by rw [e6, pk_un (by omega)]) k hk
  refine ⟨⟨by omega, h8, rfl, h.hN⟩, h.i0, h.iq, fun k hk => ?_, fun j k hjk hk => ?_, ?_, fun k hk => ?_, h.ii⟩
  · rw [e4, e5, e6]
    by_cases e : k = n
    · subst e; rw [pk_us, pk_us, pk_us]; exact ⟨is, idd, iu, i2⟩
    · rw [pk_un e, pk_un e, pk_un e]; exact h.ik k (by omega)
  · rw [e5, e5]
    by_cases e : k = n
    · subst e
      rw [pk_us]
      by_cases e2 : j = k
      · subst e2; rw [pk_us]; exact Int.le_refl _
      · rw [pk_un e2]
        have := ld.2.2 j (by omega)
        omega
    · rw [pk_un e, pk_un (show j ≠ n by omega)]; exact h.so j k hjk (by omega)
  · show ab_ns (upd (Y 4) n s) (n + 1) 0 ≤ 3
    rw [ab_ns_snoc, pk_us, ab_ns_c (s := upd (Y 4) n s) (s' := Y 4) (n := n) (fun k hk => pk_un (by omega)) n 0 (by omega)]
    have := h.ns
    by_cases e : s = 2
    · rw [if_pos e]
      have h3 := r2 e
      rw [i3_lt, ab_sc_w h] at h3
      have : (ab_ns (Y 4) n 0 : Int) < 3 := h3
      omega
    · rw [if_neg e]; omega
  · by_cases e : k = n + 1
    · subst e
      unfold ab_shI
      rw [e4, e6, pk_us, pk_us, cshI n (Nat.le_refl _)]
      by_cases c0 : s = 0
      · rw [if_pos c0]; have := iu.1; omega
      · rw [if_neg c0]
        by_cases c1 : s = 1
        · rw [if_pos c1]; have := ib c1; omega
        · rw [if_neg c1]; exact im_pos shn iu.1
    · rw [cshI k (by omega)]; exact h.sh1 k (by omega)
def ab_in (Y : Nat → Nat → Int32) (N : Nat) (s d u t : Int32) : Nat → Nat → Int32 := ab_set (ab_set (ab_set (ab_set (ab_set Y 8 (upd (Y 8) N s)) 9 (upd (Y 9) N d)) 10 (upd (Y 10) N u)) 11 (upd (Y 11) N t)) 7 (fun _ => nI (N + 1))
theorem ab_wf.instr (h : ab_wf Y n N) (hN : N < 8) {s d u t : Int32} (is : ab_I s 0 3) (idd : ab_I d 0 359) (iu : ab_I u 1 9999) (it : ab_I t 0 99999) : ab_wf (ab_in Y N s d u t) n (N + 1) := by
  have e8 : ∀ k, ab_in Y N s d u t 8 k = upd (Y 8) N s k := fun _ => rfl
  have e9 : ∀ k, ab_in Y N s d u t 9 k = upd (Y 9) N d k := fun _ => rfl
  have e10 : ∀ k, ab_in Y N s d u t 10 k = upd (Y 10) N u k := fun _ => rfl
  have e11 : ∀ k, ab_in Y N s d u t 11 k = upd (Y 11) N t k := fun _ => rfl
  refine ⟨⟨h.n20, by omega, h.hn, rfl⟩, h.i0, h.iq, h.ik, h.so, h.ns, fun k hk => ?_, fun i hi => ?_⟩
  · rw [← ab_shI_c (Y := Y) (Z := ab_in Y N s d u t) (n := n) rfl (fun _ _ => rfl) (fun _ _ => rfl) k hk]; exact h.sh1 k hk
  · rw [e8, e9, e10, e11]
    by_cases e : i = N
    · subst e; rw [pk_us, pk_us, pk_us, pk_us]; exact ⟨is, idd, iu, it⟩
    · rw [pk_un e, pk_un e, pk_un e, pk_un e]; exact h.ii i (by omega)
end PW1
section PW2
variable {R : Nat → Int32} {n N : Nat}
theorem Yv_profit (h20 : n ≤ 20) (h8 : N ≤ 8) {q : Nat} {v : Int32} (hq : q < 4) : ab_le (Yv (upd R (1 + 2 * q) v)) (ab_set (Yv R) 1 (upd (Yv R 1) q v)) n N := by
  intro j k hl
  have hs : ab_lv n N j k := hl
  unfold ab_lv at hl
  have hj : j ≤ 11 := by omega
  have key : ∀ p : Nat, p ≠ 1 + 2 * q → upd R (1 + 2 * q) v p = R p := fun p hp => pk_un hp
  by_cases e1 : j = 1
  · subst e1
    show upd R (1 + 2 * q) v (1 + 2 * k) = upd (Yv R 1) q v k
    by_cases e : k = q
    · subst e; rw [pk_us, pk_us]
    · rw [pk_un (by omega), pk_un e]; rfl
  · have : j = 0 ∨ j = 2 ∨ j = 3 ∨ j = 4 ∨ j = 5 ∨ j = 6 ∨ j = 7 ∨ j = 8 ∨ j = 9 ∨ j = 10 ∨ j = 11 := by omega
    rcases this with e | e | e | e | e | e | e | e | e | e | e <;> subst e <;> exact key _ (by omega)
theorem Yv_price (h20 : n ≤ 20) (h8 : N ≤ 8) {q : Nat} {v : Int32} (hq : q < 4) : ab_le (Yv (upd R (2 + 2 * q) v)) (ab_set (Yv R) 2 (upd (Yv R 2) q v)) n N := by
  intro j k hl
  unfold ab_lv at hl
  have hj : j ≤ 11 := by omega
  have key : ∀ p : Nat, p ≠ 2 + 2 * q → upd R (2 + 2 * q) v p = R p := fun p hp => pk_un hp
  by_cases e1 : j = 2
  · subst e1
    show upd R (2 + 2 * q) v (2 + 2 * k) = upd (Yv R 2) q v k
    by_cases e : k = q
    · subst e; rw [pk_us, pk_us]
    · rw [pk_un (by omega), pk_un e]; rfl
  · have : j = 0 ∨ j = 1 ∨ j = 3 ∨ j = 4 ∨ j = 5 ∨ j = 6 ∨ j = 7 ∨ j = 8 ∨ j = 9 ∨ j = 10 ∨ j = 11 := by omega
    rcases this with e | e | e | e | e | e | e | e | e | e | e <;> subst e <;> exact key _ (by omega)
def Rv_ev (R : Nat → Int32) (n : Nat) (s d u : Int32) : Nat → Int32 := upd (upd (upd (upd R (10 + 3 * n) s) (10 + 3 * n + 1) d) (10 + 3 * n + 2) u) 9 (nI (n + 1))
theorem Rv_ev_x {s d u : Int32} {p : Nat} (h1 : p ≠ 9) (h2 : p ≠ 10 + 3 * n) (h3 : p ≠ 10 + 3 * n + 1) (h4 : p ≠ 10 + 3 * n + 2) : Rv_ev R n s d u p = R p := by
  unfold Rv_ev; rw [pk_un h1, pk_un h4, pk_un h3, pk_un h2]
theorem Yv_ev (h20 : n < 20) (h8 : N ≤ 8) {s d u : Int32} : ab_le (Yv (Rv_ev R n s d u)) (ab_ev (Yv R) n s d u) (n + 1) N := by
  intro j k hl
  unfold ab_lv at hl
  have hj : j ≤ 11 := by omega
  have : j = 4 ∨ j = 5 ∨ j = 6 ∨ j = 3 ∨ j = 0 ∨ j = 1 ∨ j = 2 ∨ j = 7 ∨ j = 8 ∨ j = 9 ∨ j = 10 ∨ j = 11 := by omega
  rcases this with e | e | e | e | e | e | e | e | e | e | e | e
  · subst e
    show Rv_ev R n s d u (10 + 3 * k) = upd (Yv R 4) n s k
    by_cases e : k = n
    · subst e; unfold Rv_ev; rw [pk_un (by omega), pk_un (by omega), pk_un (by omega), pk_us, pk_us]
    · rw [Rv_ev_x (by omega) (by omega) (by omega) (by omega), pk_un e]; rfl
  · subst e
    show Rv_ev R n s d u (11 + 3 * k) = upd (Yv R 5) n d k
    by_cases e : k = n
    · subst e; unfold Rv_ev; rw [show 11 + 3 * k = 10 + 3 * k + 1 by omega, pk_un (by omega), pk_un (by omega), pk_us, pk_us]
    · rw [Rv_ev_x (by omega) (by omega) (by omega) (by omega), pk_un e]; rfl
  · subst e
    show Rv_ev R n s d u (12 + 3 * k) = upd (Yv R 6) n u k
    by_cases e : k = n
    · subst e; unfold Rv_ev; rw [show 12 + 3 * k = 10 + 3 * k + 2 by omega, pk_un (by omega), pk_us, pk_us]
    · rw [Rv_ev_x (by omega) (by omega) (by omega) (by omega), pk_un e]; rfl
  · subst e
    show Rv_ev R n s d u 9 = nI (n + 1)
    unfold Rv_ev; rw [pk_us]
  all_goals (subst e; exact Rv_ev_x (by omega) (by omega) (by omega) (by omega))
def Rv_in (R : Nat → Int32) (N : Nat) (s d u t : Int32) : Nat → Int32 := upd (upd (upd (upd (upd R (71 + 4 * N) s) (71 + 4 * N + 1) d) (71 + 4 * N + 2) u) (71 + 4 * N + 3) t) 70 (nI (N + 1))
theorem Rv_in_x {s d u t : Int32} {p : Nat} (h1 : p ≠ 70) (h2 : p ≠ 71 + 4 * N) (h3 : p ≠ 71 + 4 * N + 1) (h4 : p ≠ 71 + 4 * N + 2) (h5 : p ≠ 71 + 4 * N + 3) : Rv_in R N s d u t p = R p := by
  unfold Rv_in; rw [pk_un h1, pk_un h5, pk_un h4, pk_un h3, pk_un h2]
theorem Yv_in (h20 : n ≤ 20) (h8 : N < 8) {s d u t : Int32} : ab_le (Yv (Rv_in R N s d u t)) (ab_in (Yv R) N s d u t) n (N + 1) := by
  intro j k hl
  unfold ab_lv at hl
  have hj : j ≤ 11 := by omega
  have : j = 8 ∨ j = 9 ∨ j = 10 ∨ j = 11 ∨ j = 7 ∨ j = 0 ∨ j = 1 ∨ j = 2 ∨ j = 3 ∨ j = 4 ∨ j = 5 ∨ j = 6 := by omega
  rcases this with e | e | e | e | e | e | e | e | e | e | e | e
  · subst e
    show Rv_in R N s d u t (71 + 4 * k) = upd (Yv R 8) N s k
    by_cases e : k = N
    · subst e; unfold Rv_in; rw [pk_un (by omega), pk_un (by omega), pk_un (by omega), pk_un (by omega), pk_us, pk_us]
    · rw [Rv_in_x (by omega) (by omega) (by omega) (by omega) (by omega), pk_un e]; rfl
  · subst e
    show Rv_in R N s d u t (72 + 4 * k) = upd (Yv R 9) N d k
    by_cases e : k = N
    · subst e; unfold Rv_in; rw [show 72 + 4 * k = 71 + 4 * k + 1 by omega, pk_un (by omega), pk_un (by omega), pk_un (by omega), pk_us, pk_us]
    · rw [Rv_in_x (by omega) (by omega) (by omega) (by omega) (by omega), pk_un e]; rfl
  · subst e
    show Rv_in R N s d u t (73 + 4 * k) = upd (Yv R 10) N u k
    by_cases e : k = N
    · subst e; unfold Rv_in; rw [show 73 + 4 * k = 71 + 4 * k + 2 by omega, pk_un (by omega), pk_un (by omega), pk_us, pk_us]
    · rw [Rv_in_x (by omega) (by omega) (by omega) (by omega) (by omega), pk_un e]; rfl
  · subst e
    show Rv_in R N s d u t (74 + 4 * k) = upd (Yv R 11) N t k
    by_cases e : k = N
    · subst e; unfold Rv_in; rw [show 74 + 4 * k = 71 + 4 * k + 3 by omega, pk_un (by omega), pk_us, pk_us]
    · rw [Rv_in_x (by omega) (by omega) (by omega) (by omega) (by omega), pk_un e]; rfl
  · subst e
    show Rv_in R N s d u t 70 = nI (N + 1)
    unfold Rv_in; rw [pk_us]
  all_goals (subst e; exact Rv_in_x (by omega) (by omega) (by omega) (by omega) (by omega))
end PW2
