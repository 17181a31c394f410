/-! PURE 2: a well-formed Year, and how large its numbers are -/
def ab_I (x : Int32) (a b : Int) : Prop := a ≤ x.toInt ∧ x.toInt ≤ b
def ab_ns (s : Nat → Int32) : Nat → Nat → Nat
  | 0, _ => 0
  | m + 1, k => ab_ns s m (k + 1) + (if s k = 2 then 1 else 0)
def ab_shI (Y : Nat → Nat → Int32) : Nat → Int
  | 0 => (Y 0 0).toInt
  | k + 1 => if Y 4 k = 0 then ab_shI Y k + (Y 6 k).toInt else if Y 4 k = 1 then ab_shI Y k - (Y 6 k).toInt else ab_shI Y k * (Y 6 k).toInt
def ab_wf (Y : Nat → Nat → Int32) (n N : Nat) : Prop :=
  (n ≤ 20 ∧ N ≤ 8 ∧ Y 3 0 = nI n ∧ Y 7 0 = nI N) ∧ ab_I (Y 0 0) 1 99999 ∧
  (∀ q, q < 4 → ab_I (Y 1 q) (-99999) 99999 ∧ ab_I (Y 2 q) 1 9999) ∧
  (∀ k, k < n → ab_I (Y 4 k) 0 2 ∧ ab_I (Y 5 k) 0 359 ∧ ab_I (Y 6 k) 1 99999 ∧ (Y 4 k = 2 → ab_I (Y 6 k) 2 9)) ∧
  (∀ j k, j ≤ k → k < n → (Y 5 j).toInt ≤ (Y 5 k).toInt) ∧
  ab_ns (Y 4) n 0 ≤ 3 ∧ (∀ k, k ≤ n → 1 ≤ ab_shI Y k) ∧
  (∀ i, i < N → ab_I (Y 8 i) 0 3 ∧ ab_I (Y 9 i) 0 359 ∧ ab_I (Y 10 i) 1 9999 ∧ ab_I (Y 11 i) 0 99999)
theorem ab_ns_add (s : Nat → Int32) (b : Nat) : ∀ (a k : Nat), ab_ns s (a + b) k = ab_ns s a k + ab_ns s b (k + a) := by
  intro a
  induction a with
  | zero => intro k; rw [Nat.zero_add, Nat.add_zero]; unfold ab_ns; omega
  | succ a ih =>
    intro k
    rw [show a + 1 + b = (a + b) + 1 by omega]
    conv => lhs; unfold ab_ns
    rw [ih (k + 1), show k + 1 + a = k + (a + 1) by omega]
    conv => rhs; rw [show ab_ns s (a + 1) k = ab_ns s a (k + 1) + (if s k = 2 then 1 else 0) from rfl]
    omega
theorem ab_ns_snoc (s : Nat → Int32) (k : Nat) : ab_ns s (k + 1) 0 = ab_ns s k 0 + (if s k = 2 then 1 else 0) := by
  rw [ab_ns_add]; unfold ab_ns; rw [Nat.zero_add]; unfold ab_ns; rw [Nat.zero_add]
theorem p9 : ∀ k : Nat, 1 ≤ (9 : Int) ^ k := by
  intro k
  induction k with
  | zero => decide
  | succ k ih => rw [Int.pow_succ]; omega
theorem p9_3 {k : Nat} (h : k ≤ 3) : (9 : Int) ^ k ≤ 729 := by
  have : k = 0 ∨ k = 1 ∨ k = 2 ∨ k = 3 := by omega
  rcases this with h | h | h | h <;> subst h <;> decide
theorem im_le {a b c : Int} (h : a ≤ b) (hc : 0 ≤ c) : a * c ≤ b * c := Int.mul_le_mul_of_nonneg_right h hc
theorem im_le' {a b c : Int} (h : a ≤ b) (hc : 0 ≤ c) : c * a ≤ c * b := Int.mul_le_mul_of_nonneg_left h hc
theorem im_pos {a b : Int} (h : 1 ≤ a) (hb : 1 ≤ b) : 1 ≤ a * b := by
  have := Int.mul_pos (show 0 < a by omega) (show 0 < b by omega)
  omega
theorem im_nn {a b : Int} (h : 0 ≤ a) (hb : 0 ≤ b) : 0 ≤ a * b := Int.mul_nonneg h hb
/-- a product of splits -/
theorem ab_sp_b {s d u : Nat → Int32} {A B : Int32} {n : Nat} (hu : ∀ k, k < n → s k = 2 → ab_I (u k) 2 9) : ∀ (m k : Nat) (c : Int32), k + m = n → 1 ≤ c.toInt → c.toInt * 9 ^ (ab_ns s m k) ≤ 2147483647 → 1 ≤ (ab_sp s d u A B m k c).toInt ∧ (ab_sp s d u A B m k c).toInt ≤ c.toInt * 9 ^ (ab_ns s m k) := by
  intro m
  induction m with
  | zero => intro k c _ h1 h2; unfold ab_sp ab_ns; rw [Int.pow_zero, Int.mul_one]; exact ⟨h1, Int.le_refl _⟩
  | succ m ih =>
    intro k c hk h1 h2
    have hP := p9 (ab_ns s m (k + 1))
    unfold ab_sp
    rw [show ab_ns s (m + 1) k = ab_ns s m (k + 1) + (if s k = 2 then 1 else 0) from rfl] at h2 ⊢
    by_cases e : s k = 2
    · rw [if_pos e, Int.pow_succ] at h2
      rw [if_pos e, if_pos e, Int.pow_succ]
      obtain ⟨u1, u2⟩ := hu k (by omega) e
      have e9 : c.toInt * (9 ^ ab_ns s m (k + 1) * 9) = c.toInt * 9 * 9 ^ ab_ns s m (k + 1) := by rw [Int.mul_comm (9 ^ _) 9, Int.mul_assoc]
      rw [e9] at h2 ⊢
      have g1 : c.toInt * 9 ^ ab_ns s m (k + 1) ≤ c.toInt * 9 * 9 ^ ab_ns s m (k + 1) := im_le (by omega) (by omega)
      have same : ∀ c' : Int32, c' = c → 1 ≤ (ab_sp s d u A B m (k + 1) c').toInt ∧ (ab_sp s d u A B m (k + 1) c').toInt ≤ c.toInt * 9 * 9 ^ ab_ns s m (k + 1) := by
        intro c' hc; subst hc
        have := ih (k + 1) c' (by omega) h1 (by omega)
        exact ⟨this.1, by omega⟩
      split
      · split
        · exact same _ rfl
        · have g2 : c.toInt * (u k).toInt ≤ c.toInt * 9 := im_le' u2 (by omega)
          have g3 : c.toInt * 9 ≤ c.toInt * 9 * 9 ^ ab_ns s m (k + 1) := by
            have := im_le' hP (show 0 ≤ c.toInt * 9 by omega)
            rw [Int.mul_one] at this; exact this
          have g4 : 1 ≤ c.toInt * (u k).toInt := im_pos h1 (by omega)
          have e2 : (c * u k).toInt = c.toInt * (u k).toInt := i3_mul (by omega) (by omega)
          have g5 : (c * u k).toInt * 9 ^ ab_ns s m (k + 1) ≤ c.toInt * 9 * 9 ^ ab_ns s m (k + 1) := im_le (by omega) (by omega)
          have := ih (k + 1) (c * u k) (by omega) (by omega) (by omega)
          exact ⟨this.1, by omega⟩
      · exact same _ rfl
    · rw [if_neg e, Nat.add_zero] at h2
      rw [if_neg e, if_neg e, Nat.add_zero]
      exact ih (k + 1) c (by omega) h1 h2
section PU3
variable {Y : Nat → Nat → Int32} {n N : Nat}
theorem ab_wf.n20 (h : ab_wf Y n N) : n ≤ 20 := h.1.1
theorem ab_wf.N8 (h : ab_wf Y n N) : N ≤ 8 := h.1.2.1
theorem ab_wf.hn (h : ab_wf Y n N) : Y 3 0 = nI n := h.1.2.2.1
theorem ab_wf.hN (h : ab_wf Y n N) : Y 7 0 = nI N := h.1.2.2.2
theorem ab_wf.i0 (h : ab_wf Y n N) : ab_I (Y 0 0) 1 99999 := h.2.1
theorem ab_wf.iq (h : ab_wf Y n N) : ∀ q, q < 4 → ab_I (Y 1 q) (-99999) 99999 ∧ ab_I (Y 2 q) 1 9999 := h.2.2.1
theorem ab_wf.ik (h : ab_wf Y n N) : ∀ k, k < n → ab_I (Y 4 k) 0 2 ∧ ab_I (Y 5 k) 0 359 ∧ ab_I (Y 6 k) 1 99999 ∧ (Y 4 k = 2 → ab_I (Y 6 k) 2 9) := h.2.2.2.1
theorem ab_wf.so (h : ab_wf Y n N) : ∀ j k, j ≤ k → k < n → (Y 5 j).toInt ≤ (Y 5 k).toInt := h.2.2.2.2.1
theorem ab_wf.ns (h : ab_wf Y n N) : ab_ns (Y 4) n 0 ≤ 3 := h.2.2.2.2.2.1
theorem ab_wf.sh1 (h : ab_wf Y n N) : ∀ k, k ≤ n → 1 ≤ ab_shI Y k := h.2.2.2.2.2.2.1
theorem ab_wf.ii (h : ab_wf Y n N) : ∀ i, i < N → ab_I (Y 8 i) 0 3 ∧ ab_I (Y 9 i) 0 359 ∧ ab_I (Y 10 i) 1 9999 ∧ ab_I (Y 11 i) 0 99999 := h.2.2.2.2.2.2.2
theorem i3_eq {x y : Int32} (h : x.toInt = y.toInt) : x = y := Int32.toInt_inj.mp h
theorem i3_l2 {x : Int32} (h : ab_I x 0 2) (h0 : ¬ x = 0) (h1 : ¬ x = 1) : x = 2 := by
  apply i3_eq
  have e0 : ¬ x.toInt = 0 := fun z => h0 (i3_eq z)
  have e1 : ¬ x.toInt = 1 := fun z => h1 (i3_eq z)
  have := h.1; have := h.2
  show x.toInt = 2
  omega
theorem ab_shI_b (h : ab_wf Y n N) : ∀ k, k ≤ n → ab_shI Y k ≤ 99999 * (k + 1) * 9 ^ (ab_ns (Y 4) k 0) := by
  intro k
  induction k with
  | zero => intro _; have := h.i0.2; unfold ab_shI ab_ns; show (Y 0 0).toInt ≤ 99999; exact this
  | succ k ih =>
    intro hk
    have h1 := ih (by omega)
    have h2 := h.sh1 k (by omega)
    obtain ⟨k4, -, k6, k2⟩ := h.ik k (by omega)
    have hP := p9 (ab_ns (Y 4) k 0)
    have k61 := k6.1
    have k62 := k6.2
    rw [ab_ns_snoc]
    unfold ab_shI
    have g : 99999 * ((k : Int) + 1) * 9 ^ ab_ns (Y 4) k 0 + 99999 ≤ 99999 * (((k + 1 : Nat) : Int) + 1) * 9 ^ ab_ns (Y 4) k 0 := by
      rw [show 99999 * (((k + 1 : Nat) : Int) + 1) = 99999 * ((k : Int) + 1) + 99999 by omega, Int.add_mul]
      omega
    by_cases e0 : Y 4 k = 0
    · rw [if_pos e0, if_neg (by rw [e0]; decide), Nat.add_zero (ab_ns (Y 4) k 0)]; omega
    · rw [if_neg e0]
      by_cases e1 : Y 4 k = 1
      · rw [if_pos e1, if_neg (by rw [e1]; decide), Nat.add_zero (ab_ns (Y 4) k 0)]; omega
      · have e2 := i3_l2 k4 e0 e1
        rw [if_neg e1, if_pos e2, Int.pow_succ]
        have u9 := (k2 e2).2
        have g1 : ab_shI Y k * (Y 6 k).toInt ≤ ab_shI Y k * 9 := im_le' u9 (by omega)
        have g2 : ab_shI Y k * 9 ≤ 99999 * ((k : Int) + 1) * 9 ^ ab_ns (Y 4) k 0 * 9 := by omega
        have g3 : 99999 * ((k : Int) + 1) * 9 ^ ab_ns (Y 4) k 0 * 9 ≤ 99999 * (((k + 1 : Nat) : Int) + 1) * 9 ^ ab_ns (Y 4) k 0 * 9 := by omega
        rw [← Int.mul_assoc]
        omega
theorem ab_ns_le (s : Nat → Int32) {k n : Nat} (h : k ≤ n) : ab_ns s k 0 + ab_ns s (n - k) k = ab_ns s n 0 := by
  have := ab_ns_add s (n - k) k 0
  rw [show k + (n - k) = n by omega, Nat.zero_add] at this
  omega
theorem ab_shI_m (h : ab_wf Y n N) {k : Nat} (hk : k ≤ n) : ab_shI Y k * 9 ^ ab_ns (Y 4) (n - k) k ≤ 1530884691 := by
  have h1 := ab_shI_b h k hk
  have h2 := ab_ns_le (Y 4) hk
  have h3 := h.ns
  have h20 := h.n20
  have hs := h.sh1 k hk
  have hP := p9 (ab_ns (Y 4) k 0)
  have hQ := p9 (ab_ns (Y 4) (n - k) k)
  have h4 : (9 : Int) ^ ab_ns (Y 4) k 0 * 9 ^ ab_ns (Y 4) (n - k) k ≤ 729 := by
    rw [← Int.pow_add, h2]; exact p9_3 h3
  have h5 : 0 ≤ (9 : Int) ^ ab_ns (Y 4) k 0 * 9 ^ ab_ns (Y 4) (n - k) k := im_nn (by omega) (by omega)
  have g1 : ab_shI Y k * 9 ^ ab_ns (Y 4) (n - k) k ≤ 99999 * ((k : Int) + 1) * 9 ^ (ab_ns (Y 4) k 0) * 9 ^ ab_ns (Y 4) (n - k) k := im_le h1 (by omega)
  rw [Int.mul_assoc (99999 * ((k : Int) + 1))] at g1
  have g2 : 99999 * ((k : Int) + 1) * (9 ^ (ab_ns (Y 4) k 0) * 9 ^ ab_ns (Y 4) (n - k) k) ≤ 99999 * ((k : Int) + 1) * 729 := im_le' h4 (by omega)
  omega
theorem ab_shI_u (h : ab_wf Y n N) {k : Nat} (hk : k ≤ n) : ab_shI Y k ≤ 1530884691 := by
  have h1 := ab_shI_m h hk
  have hQ := p9 (ab_ns (Y 4) (n - k) k)
  have hs := h.sh1 k hk
  have := im_le' hQ (show 0 ≤ ab_shI Y k by omega)
  rw [Int.mul_one] at this
  omega
/-- the shares on a day are those of the events up to it -/
theorem ab_sh_k (h : ab_wf Y n N) {D : Int32} : ∀ (m k : Nat) (c : Int32), k + m = n → c.toInt = ab_shI Y k → ∃ k', k ≤ k' ∧ k' ≤ n ∧ (ab_sh (Y 4) (Y 5) (Y 6) D m k c).toInt = ab_shI Y k' ∧ (∀ j, k ≤ j → j < k' → ¬ D < Y 5 j) ∧ (k' < n → D < Y 5 k') := by
  intro m
  induction m with
  | zero => intro k c hk hc; exact ⟨k, by omega, by omega, hc, fun j _ _ => by omega, fun _ => by omega⟩
  | succ m ih =>
    intro k c hk hc
    unfold ab_sh
    by_cases e : D < Y 5 k
    · rw [if_pos e]
      exact ⟨k, by omega, by omega, hc, fun j _ _ => by omega, fun _ => e⟩
    · rw [if_neg e]
      have hc' : (if Y 4 k = 0 then c + Y 6 k else if Y 4 k = 1 then c - Y 6 k else c * Y 6 k).toInt = ab_shI Y (k + 1) := by
        have b1 := h.sh1 (k + 1) (by omega)
        have b2 := ab_shI_u h (k := k + 1) (by omega)
        conv at b1 => unfold ab_shI
        conv at b2 => unfold ab_shI
        conv => rhs; unfold ab_shI
        by_cases e0 : Y 4 k = 0
        · rw [if_pos e0] at b1 b2 ⊢
          rw [if_pos e0, i3_add (by omega) (by omega), hc]
        · rw [if_neg e0] at b1 b2 ⊢
          rw [if_neg e0]
          by_cases e1 : Y 4 k = 1
          · rw [if_pos e1] at b1 b2 ⊢
            rw [if_pos e1, i3_sub (by omega) (by omega), hc]
          · rw [if_neg e1] at b1 b2 ⊢
            rw [if_neg e1, i3_mul (by rw [hc]; omega) (by rw [hc]; omega), hc]
      obtain ⟨k', a1, a2, a3, a4, a5⟩ := ih (k + 1) _ (by omega) hc'
      refine ⟨k', by omega, a2, a3, fun j hj1 hj2 => ?_, a5⟩
      by_cases ej : j = k
      · subst ej; exact e
      · exact a4 j (by omega) hj2
theorem ab_sp_skip {s d u : Nat → Int32} {A B : Int32} {c : Int32} {k' : Nat} : ∀ (t m k : Nat), k + t = k' → k + (t + m) = n → (∀ j, k ≤ j → j < k' → ¬ A < d j) → ab_sp s d u A B (t + m) k c = ab_sp s d u A B m k' c := by
  intro t
  induction t with
  | zero => intro m k h1 h2 _; rw [Nat.zero_add, show k = k' by omega]
  | succ t ih =>
    intro m k h1 h2 h3
    rw [show t + 1 + m = (t + m) + 1 by omega]
    conv => lhs; unfold ab_sp
    rw [if_neg (h3 k (by omega) (by omega)), ite_self]
    exact ih m (k + 1) (by omega) (by omega) (fun j h4 h5 => h3 j (by omega) h5)
theorem ab_rs_b (h : ab_wf Y n N) (D : Int32) : 1 ≤ (ab_rs Y n D).toInt ∧ (ab_rs Y n D).toInt ≤ 1530884691 := by
  obtain ⟨k', -, a2, a3, a4, -⟩ := ab_sh_k h (D := D) n 0 (Y 0 0) (by omega) rfl
  have e := ab_sp_skip (s := Y 4) (d := Y 5) (u := Y 6) (A := D) (B := 359) (c := 1) (k' := k') (n := n) k' (n - k') 0 (by omega) (by omega) a4
  rw [show k' + (n - k') = n by omega] at e
  have b := ab_shI_m h a2
  have b1 := h.sh1 k' a2
  have hQ := p9 (ab_ns (Y 4) (n - k') k')
  have hns := ab_ns_le (Y 4) a2
  have h3 := h.ns
  have q3 := p9_3 (show ab_ns (Y 4) (n - k') k' ≤ 3 by omega)
  have i1 : (1 : Int32).toInt = 1 := rfl
  have p := ab_sp_b (s := Y 4) (d := Y 5) (u := Y 6) (A := D) (B := 359) (n := n) (fun k hk => (h.ik k hk).2.2.2) (n - k') k' 1 (by omega) (by omega) (by rw [i1]; omega)
  rw [i1, Int.one_mul] at p
  unfold ab_rs
  rw [e]
  have g := im_le' p.2 (show 0 ≤ ab_shI Y k' by omega)
  have g1 := im_pos b1 p.1
  rw [i3_mul (by rw [a3]; omega) (by rw [a3]; omega), a3]
  omega
theorem ab_sp_w (h : ab_wf Y n N) (A B : Int32) : 1 ≤ (ab_sp (Y 4) (Y 5) (Y 6) A B n 0 1).toInt ∧ (ab_sp (Y 4) (Y 5) (Y 6) A B n 0 1).toInt ≤ 729 := by
  have i1 : (1 : Int32).toInt = 1 := rfl
  have q3 := p9_3 h.ns
  have p := ab_sp_b (s := Y 4) (d := Y 5) (u := Y 6) (A := A) (B := B) (n := n) (fun k hk => (h.ik k hk).2.2.2) n 0 1 (by omega) (by omega) (by rw [i1]; omega)
  rw [i1, Int.one_mul] at p
  exact ⟨p.1, by omega⟩
theorem ab_old_b (h : ab_wf Y n N) {i : Nat} (hi : i < N) : 1 ≤ (ab_old Y n i).toInt ∧ (ab_old Y n i).toInt ≤ 7289271 := by
  obtain ⟨-, -, ⟨g1, g2⟩, -⟩ := h.ii i hi
  obtain ⟨p1, p2⟩ := ab_sp_w h (Y 9 i) 359
  unfold ab_old
  have a1 := im_pos g1 p1
  have a2 := im_le g2 (show 0 ≤ (ab_sp (Y 4) (Y 5) (Y 6) (Y 9 i) 359 n 0 1).toInt by omega)
  rw [i3_mul (by omega) (by omega)]
  omega
theorem ab_pr_b (h : ab_wf Y n N) {i q : Nat} (hq : q < 4) : 1 ≤ (ab_pr Y n i q).toInt ∧ (ab_pr Y n i q).toInt ≤ 7289271 := by
  obtain ⟨-, ⟨g1, g2⟩⟩ := h.iq q hq
  obtain ⟨p1, p2⟩ := ab_sp_w h (Y 9 i) ((nI q + 1) * 90 - 1)
  unfold ab_pr
  have a1 := im_pos g1 p1
  have a2 := im_le g2 (show 0 ≤ (ab_sp (Y 4) (Y 5) (Y 6) (Y 9 i) ((nI q + 1) * 90 - 1) n 0 1).toInt by omega)
  rw [i3_mul (by omega) (by omega)]
  omega
theorem ab_mx_i (a b : Int32) : (ab_mx a b).toInt = if a.toInt < b.toInt then b.toInt else a.toInt := by
  unfold ab_mx
  by_cases h : a < b
  · rw [if_pos h, if_pos (i3_lt.mp h)]
  · rw [if_neg h, if_neg (fun z => h (i3_lt.mpr z))]
theorem ab_dc_i {di : Int32} {a b : Nat} (hd : ab_I di 0 359) (hab : a ≤ b) (hb : b < 4) : (ab_dc di (nI a) (nI b)).toInt = if 90 * (b : Int) + 90 - (if 90 * (a : Int) < di.toInt then di.toInt else 90 * a) < 0 then 0 else 90 * (b : Int) + 90 - (if 90 * (a : Int) < di.toInt then di.toInt else 90 * a) := by
  obtain ⟨d1, d2⟩ := hd
  have e1 : (nI b + 1) * 90 = nI (90 * b + 90) := by
    rw [nI_1, show (90 : Int32) = nI 90 from rfl, pk_mul]; congr 1; omega
  have e2 : nI a * 90 = nI (90 * a) := by
    rw [show (90 : Int32) = nI 90 from rfl, pk_mul]; congr 1; omega
  have t1 : (nI (90 * b + 90)).toInt = 90 * (b : Int) + 90 := by rw [nI_toInt (by omega)]; omega
  have t2 : (nI (90 * a)).toInt = 90 * (a : Int) := by rw [nI_toInt (by omega)]; omega
  unfold ab_dc
  rw [e1, e2]
  have z0 : (0 : Int32).toInt = 0 := rfl
  have m := ab_mx_i (nI (90 * a)) di
  rw [t2] at m
  rw [ab_mx_i, i3_sub (by rw [t1, m]; split <;> omega) (by rw [t1, m]; split <;> omega), t1, m, z0]
theorem ab_dc_b {di : Int32} {a b : Nat} (hd : ab_I di 0 359) (hab : a ≤ b) (hb : b < 4) : 0 ≤ (ab_dc di (nI a) (nI b)).toInt ∧ (ab_dc di (nI a) (nI b)).toInt ≤ 360 := by
  rw [ab_dc_i hd hab hb]
  have := hd.1
  split
  · omega
  · split at * <;> omega
end PU3
