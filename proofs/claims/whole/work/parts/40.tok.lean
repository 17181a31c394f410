/-! TOKENS: what both read of a tape of codes -/
def tz_sk (c : Nat → Nat) (t : Nat) : Nat → Nat → Nat
  | 0, p => p
  | m + 1, p => if p < t ∧ (c p = 32 ∨ c p = 10) then tz_sk c t m (p + 1) else p
def tz_run (c : Nat → Nat) (t : Nat) : Nat → Nat → Nat
  | 0, p => p
  | m + 1, p => if p < t ∧ ((97 ≤ c p ∧ c p ≤ 122) ∨ (48 ≤ c p ∧ c p ≤ 57)) then tz_run c t m (p + 1) else p
def tz_nl (c : Nat → Nat) (s : Nat) : Nat → Nat
  | 0 => 0
  | m + 1 => tz_nl c s m + (if 97 ≤ c (s + m) ∧ c (s + m) ≤ 122 then 1 else 0)
def tz_nd (c : Nat → Nat) (s : Nat) : Nat → Nat
  | 0 => 0
  | m + 1 => tz_nd c s m + (if 48 ≤ c (s + m) ∧ c (s + m) ≤ 57 then 1 else 0)
/-- kind (0 the end, 1 a word, 2 a number, 3 a semicolon, 4 no token, 5 behind 700), where it begins, where the next one may begin -/
def tz_t (c : Nat → Nat) (t p : Nat) : Nat × Nat × Nat :=
  if 700 < t ∧ 700 ≤ tz_sk c t (t - p) p then (5, 700, 0)
  else if t ≤ tz_sk c t (t - p) p then (0, t, 0)
  else if c (tz_sk c t (t - p) p) = 59 then (3, tz_sk c t (t - p) p, tz_sk c t (t - p) p + 1)
  else (if 0 < tz_nl c (tz_sk c t (t - p) p) (tz_run c t (t - tz_sk c t (t - p) p) (tz_sk c t (t - p) p) - tz_sk c t (t - p) p) ∧ tz_nd c (tz_sk c t (t - p) p) (tz_run c t (t - tz_sk c t (t - p) p) (tz_sk c t (t - p) p) - tz_sk c t (t - p) p) = 0 then 1
    else if tz_nl c (tz_sk c t (t - p) p) (tz_run c t (t - tz_sk c t (t - p) p) (tz_sk c t (t - p) p) - tz_sk c t (t - p) p) = 0 ∧ 1 ≤ tz_nd c (tz_sk c t (t - p) p) (tz_run c t (t - tz_sk c t (t - p) p) (tz_sk c t (t - p) p) - tz_sk c t (t - p) p) ∧ tz_nd c (tz_sk c t (t - p) p) (tz_run c t (t - tz_sk c t (t - p) p) (tz_sk c t (t - p) p) - tz_sk c t (t - p) p) ≤ 5 then 2 else 4,
    tz_sk c t (t - p) p, tz_run c t (t - tz_sk c t (t - p) p) (tz_sk c t (t - p) p))
section TZ1
variable {c : Nat → Nat} {t : Nat}
theorem tz_sk_s : ∀ (m p : Nat), p + m = t → p ≤ tz_sk c t m p ∧ tz_sk c t m p ≤ t ∧ (∀ j, p ≤ j → j < tz_sk c t m p → c j = 32 ∨ c j = 10) ∧ (tz_sk c t m p < t → ¬ (c (tz_sk c t m p) = 32 ∨ c (tz_sk c t m p) = 10)) := by
  intro m
  induction m with
  | zero => intro p hp; unfold tz_sk; exact ⟨by omega, by omega, fun j _ _ => by omega, fun h => by omega⟩
  | succ m ih =>
    intro p hp
    unfold tz_sk
    by_cases e : p < t ∧ (c p = 32 ∨ c p = 10)
    · rw [if_pos e]
      obtain ⟨a1, a2, a3, a4⟩ := ih (p + 1) (by omega)
      refine ⟨by omega, a2, fun j h1 h2 => ?_, a4⟩
      by_cases ej : j = p
      · subst ej; exact e.2
      · exact a3 j (by omega) h2
    · rw [if_neg e]
      exact ⟨by omega, by omega, fun j _ _ => by omega, fun h w => e ⟨h, w⟩⟩
theorem tz_run_s : ∀ (m p : Nat), p + m = t → p ≤ tz_run c t m p ∧ tz_run c t m p ≤ t ∧ (∀ j, p ≤ j → j < tz_run c t m p → (97 ≤ c j ∧ c j ≤ 122) ∨ (48 ≤ c j ∧ c j ≤ 57)) ∧ (tz_run c t m p < t → ¬ ((97 ≤ c (tz_run c t m p) ∧ c (tz_run c t m p) ≤ 122) ∨ (48 ≤ c (tz_run c t m p) ∧ c (tz_run c t m p) ≤ 57))) := by
  intro m
  induction m with
  | zero => intro p hp; unfold tz_run; exact ⟨by omega, by omega, fun j _ _ => by omega, fun h => by omega⟩
  | succ m ih =>
    intro p hp
    unfold tz_run
    by_cases e : p < t ∧ ((97 ≤ c p ∧ c p ≤ 122) ∨ (48 ≤ c p ∧ c p ≤ 57))
    · rw [if_pos e]
      obtain ⟨a1, a2, a3, a4⟩ := ih (p + 1) (by omega)
      refine ⟨by omega, a2, fun j h1 h2 => ?_, a4⟩
      by_cases ej : j = p
      · subst ej; exact e.2
      · exact a3 j (by omega) h2
    · rw [if_neg e]
      exact ⟨by omega, by omega, fun j _ _ => by omega, fun h w => e ⟨h, w⟩⟩
/-- what a token is, case by case -/
def tz_at (c : Nat → Nat) (t p k s r : Nat) : Prop :=
  (k = 5 ∧ s = 700 ∧ 700 < t ∧ ∃ q, p ≤ q ∧ 700 ≤ q ∧ q ≤ t ∧ (∀ j, p ≤ j → j < q → c j = 32 ∨ c j = 10) ∧ (q < t → ¬ (c q = 32 ∨ c q = 10))) ∨
  (k = 0 ∧ s = t ∧ t ≤ 700 ∧ p ≤ t ∧ ∀ j, p ≤ j → j < t → c j = 32 ∨ c j = 10) ∨
  (k ≠ 5 ∧ k ≠ 0 ∧ p ≤ s ∧ s < t ∧ s < 700 ∧ (∀ j, p ≤ j → j < s → c j = 32 ∨ c j = 10) ∧ ¬ (c s = 32 ∨ c s = 10) ∧
    ((k = 3 ∧ c s = 59 ∧ r = s + 1) ∨ (k ≠ 3 ∧ ¬ c s = 59 ∧ s ≤ r ∧ r ≤ t ∧ (∀ j, s ≤ j → j < r → (97 ≤ c j ∧ c j ≤ 122) ∨ (48 ≤ c j ∧ c j ≤ 57)) ∧ (r < t → ¬ ((97 ≤ c r ∧ c r ≤ 122) ∨ (48 ≤ c r ∧ c r ≤ 57))) ∧
      k = if 0 < tz_nl c s (r - s) ∧ tz_nd c s (r - s) = 0 then 1 else if tz_nl c s (r - s) = 0 ∧ 1 ≤ tz_nd c s (r - s) ∧ tz_nd c s (r - s) ≤ 5 then 2 else 4)))
theorem tz_t_at {p : Nat} (hp : p ≤ t) : tz_at c t p (tz_t c t p).1 (tz_t c t p).2.1 (tz_t c t p).2.2 := by
  obtain ⟨a1, a2, a3, a4⟩ := tz_sk_s (c := c) (t := t) (t - p) p (by omega)
  unfold tz_t
  generalize tz_sk c t (t - p) p = q at *
  by_cases e1 : 700 < t ∧ 700 ≤ q
  · rw [if_pos e1]
    exact Or.inl ⟨rfl, rfl, e1.1, q, a1, e1.2, a2, a3, a4⟩
  · rw [if_neg e1]
    by_cases e2 : t ≤ q
    · rw [if_pos e2]
      exact Or.inr (Or.inl ⟨rfl, rfl, by omega, hp, fun j h1 h2 => a3 j h1 (by omega)⟩)
    · rw [if_neg e2]
      obtain ⟨b1, b2, b3, b4⟩ := tz_run_s (c := c) (t := t) (t - q) q (by omega)
      by_cases e3 : c q = 59
      · rw [if_pos e3]
        exact Or.inr (Or.inr ⟨by show (3 : Nat) ≠ 5; decide, by show (3 : Nat) ≠ 0; decide, a1, by show q < t; omega, by show q < 700; omega, a3, a4 (by omega), Or.inl ⟨rfl, e3, rfl⟩⟩)
      · rw [if_neg e3]
        generalize tz_run c t (t - q) q = r at *
        refine Or.inr (Or.inr ⟨?_, ?_, a1, by show q < t; omega, by show q < 700; omega, a3, a4 (by omega), Or.inr ⟨?_, e3, b1, b2, b3, b4, rfl⟩⟩)
        · show (if _ then _ else _) ≠ _; split <;> (try split) <;> decide
        · show (if _ then _ else _) ≠ _; split <;> (try split) <;> decide
        · show (if _ then _ else _) ≠ _; split <;> (try split) <;> decide
theorem tz_r_le {p k s r : Nat} (h : tz_at c t p k s r) (hk : k = 1 ∨ k = 2 ∨ k = 3) : r ≤ t ∧ p ≤ s ∧ s < r ∧ s < t := by
  rcases h with h | h | h
  · omega
  · omega
  · obtain ⟨-, -, h1, h2, -, -, -, h3⟩ := h
    rcases h3 with h3 | h3
    · omega
    · obtain ⟨h4, -, h5, h6, -, -, h7⟩ := h3
      refine ⟨h6, h1, ?_, h2⟩
      refine Classical.byContradiction fun e => ?_
      have : r - s = 0 := by omega
      rw [this] at h7
      have z1 : tz_nl c s 0 = 0 := rfl
      have z2 : tz_nd c s 0 = 0 := rfl
      rw [z1, z2, if_neg (by omega), if_neg (by omega)] at h7
      omega
/-- counts -/
theorem tz_cnt {s : Nat} : ∀ m : Nat, (∀ j, s ≤ j → j < s + m → (97 ≤ c j ∧ c j ≤ 122) ∨ (48 ≤ c j ∧ c j ≤ 57)) → tz_nl c s m + tz_nd c s m = m := by
  intro m
  induction m with
  | zero => intro _; rfl
  | succ m ih =>
    intro h
    have := ih (fun j h1 h2 => h j h1 (by omega))
    unfold tz_nl tz_nd
    rcases h (s + m) (by omega) (by omega) with e | e
    · rw [if_pos e, if_neg (by omega)]; omega
    · rw [if_neg (by omega), if_pos e]; omega
theorem tz_nl_0 {s : Nat} : ∀ m : Nat, tz_nl c s m = 0 → ∀ j, s ≤ j → j < s + m → ¬ (97 ≤ c j ∧ c j ≤ 122) := by
  intro m
  induction m with
  | zero => intro _ j h1 h2; omega
  | succ m ih =>
    intro h j h1 h2
    unfold tz_nl at h
    by_cases e : j = s + m
    · subst e; intro w; rw [if_pos w] at h; omega
    · exact ih (by omega) j h1 (by omega)
theorem tz_nd_0 {s : Nat} : ∀ m : Nat, tz_nd c s m = 0 → ∀ j, s ≤ j → j < s + m → ¬ (48 ≤ c j ∧ c j ≤ 57) := by
  intro m
  induction m with
  | zero => intro _ j h1 h2; omega
  | succ m ih =>
    intro h j h1 h2
    unfold tz_nd at h
    by_cases e : j = s + m
    · subst e; intro w; rw [if_pos w] at h; omega
    · exact ih (by omega) j h1 (by omega)
theorem tz_nl_le {s : Nat} : ∀ m : Nat, tz_nl c s m ≤ m := by
  intro m
  induction m with
  | zero => exact Nat.le_refl _
  | succ m ih => unfold tz_nl; split <;> omega
theorem tz_nd_le {s : Nat} : ∀ m : Nat, tz_nd c s m ≤ m := by
  intro m
  induction m with
  | zero => exact Nat.le_refl _
  | succ m ih => unfold tz_nd; split <;> omega
end TZ1
/-- the value of digits (five at most), as the class and as the model reckon it -/
def tz_v (c : Nat → Nat) (s : Nat) : Nat → Int32
  | 0 => 0
  | m + 1 => if 97 ≤ c (s + m) ∧ c (s + m) ≤ 122 then tz_v c s m else if tz_nd c s (m + 1) ≤ 5 then tz_v c s m * 10 + nI (c (s + m)) - 48 else 0
def tz_n (c : Nat → Nat) (s : Nat) : Nat → Int32
  | 0 => 0
  | m + 1 => if m < 5 then 10 * tz_n c s m + nI (c (s + m)) - 48 else tz_n c s m
def tz_w (c : Nat → Nat) (s : Nat) : Nat → Int64
  | 0 => 0
  | m + 1 => if m < 8 then 27 * tz_w c s m + (nI (c (s + m))).toInt64 - 96 else tz_w c s m
theorem tz_v_n {c : Nat → Nat} {s : Nat} : ∀ m : Nat, m ≤ 5 → (∀ j, s ≤ j → j < s + m → ¬ (97 ≤ c j ∧ c j ≤ 122)) → tz_v c s m = tz_n c s m := by
  intro m
  induction m with
  | zero => intro _ _; rfl
  | succ m ih =>
    intro h5 h
    have := tz_nd_le (c := c) (s := s) (m + 1)
    unfold tz_v tz_n
    rw [if_neg (h (s + m) (by omega) (by omega)), if_pos (by omega), if_pos (by omega), ih (by omega) (fun j h1 h2 => h j h1 (by omega)), Int32.mul_comm]
/-- bytes as the class sees them -/
def tz_b (x : Nat) : Int32 := (nI x).toInt8.toInt32
theorem tz_b_i : ∀ x, x < 256 → (tz_b x).toInt = if x < 128 then (x : Int) else (x : Int) - 256 := by decide +kernel
theorem tz_b_n {x : Nat} (h : x < 128) : tz_b x = nI x := by
  apply i3_eq
  rw [tz_b_i x (by omega), if_pos h, nI_toInt (by omega)]
theorem tz_b_e {x v : Nat} (h : x < 256) (hv : v < 128) : tz_b x = nI v ↔ x = v := by
  constructor
  · intro e
    have := congrArg Int32.toInt e
    rw [tz_b_i x h, nI_toInt (by omega)] at this
    split at this <;> omega
  · intro e; subst e; exact tz_b_n hv
theorem tz_b_lt {x v : Nat} (h : x < 256) (hv : v < 128) : tz_b x < nI v ↔ x < v ∨ 128 ≤ x := by
  rw [i3_lt, tz_b_i x h, nI_toInt (by omega)]
  split <;> omega
theorem tz_b_gt {x v : Nat} (h : x < 256) (hv : v < 128) : nI v < tz_b x ↔ v < x ∧ x < 128 := by
  rw [i3_lt, tz_b_i x h, nI_toInt (by omega)]
  split <;> omega
