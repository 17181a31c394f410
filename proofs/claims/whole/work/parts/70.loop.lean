/-! THE LAW: the loop, the start -/
section PLL
variable {p : Program} {l : Launch} {e : Env} {s : State} {m : MethodId} {args : Array Value} {below : List Frame} {meth : Method} {c : Code} {cells slots : Nat} {Q : State → Prop}
variable {ρ : Nat → Nat} {τ : Nat → ClassId} {D : va_G} {sz : Nat} {aV : Nat → Nat} {b L : Nat} {xs : Nat → Int32} {i : Int32} {w : pm_H}
theorem pl_round (C : pl_C p l s m args c cells slots ρ τ D sz aV b L xs i) (I : IV w) (K : ∀ w', IV w' → pm_K p l e room_1 s m args below meth c (cells + 1) (slots + 6) Q ρ τ D sz (1447, pl_0 i, [], w')) : pm_K p l e room_1 s m args below meth c cells slots Q ρ τ D sz (33, pl_0 i, [], w) := by
  have hin : vp_in i L := by
    have h := C.hin 0 (by decide) (by decide)
    rw [show i + Int32.ofInt 0 = i from Int32.add_zero i] at h
    exact h
  refine pm_sB_ok C.hx C.hb dw_33 rfl ?_
  refine pm_sB_ok C.hx C.hb dw_34 rfl ?_
  refine pl_sld C.hx C.hb C.hX C.hbl C.hsz C.hρ hin dw_36 ?_
  refine pm_sA_ok C.hx C.hb dw_37 rfl ?_
  refine pm_sD_ok C.hx C.hb dw_39 rfl ?_
  obtain ⟨v, hv, ev⟩ := pl_and (xs i.toNatClampNeg)
  show pm_K p l e room_1 s m args below meth c cells slots Q ρ τ D sz (40, pl_0 i, [.int (xs i.toNatClampNeg &&& 31)], w)
  rw [ev]
  have hdef : pm_K p l e room_1 s m args below meth c cells slots Q ρ τ D sz (1447, pl_0 i, [], w) := pr_widen (Nat.le_add_right _ _) (Nat.le_add_right _ _) (K w I)
  rcases (show v = 0 ∨ v = 1 ∨ v = 2 ∨ v = 3 ∨ v = 4 ∨ v = 5 ∨ v = 6 ∨ v = 7 ∨ v = 8 ∨ v = 9 ∨ v = 10 ∨ v = 11 ∨ v = 12 ∨ v = 13 ∨ v = 14 ∨ v = 15 ∨ v = 16 ∨ v = 17 ∨ v = 18 ∨ v = 19 ∨ v = 20 ∨ v = 21 ∨ v = 22 ∨ v = 23 ∨ v = 24 ∨ v = 25 ∨ v = 26 ∨ v = 27 ∨ v = 28 ∨ v = 29 ∨ v = 30 ∨ v = 31 by omega) with rfl | rfl | rfl | rfl | rfl | rfl | rfl | rfl | rfl | rfl | rfl | rfl | rfl | rfl | rfl | rfl | rfl | rfl | rfl | rfl | rfl | rfl | rfl | rfl | rfl | rfl | rfl | rfl | rfl | rfl | rfl | rfl
  · exact pm_sG_ok (cf := (148, pl_0 i, [], w)) C.hx C.hb dw_40 rfl (pl_c0 C I K)
  · exact pm_sG_ok (cf := (221, pl_0 i, [], w)) C.hx C.hb dw_40 rfl (pl_c1 C I K)
  · exact pm_sG_ok (cf := (246, pl_0 i, [], w)) C.hx C.hb dw_40 rfl (pl_c2 C I K)
  · exact pm_sG_ok (cf := (259, pl_0 i, [], w)) C.hx C.hb dw_40 rfl (pl_c3 C I K)
  · exact pm_sG_ok (cf := (272, pl_0 i, [], w)) C.hx C.hb dw_40 rfl (pl_c4 C I K)
  · exact pm_sG_ok (cf := (297, pl_0 i, [], w)) C.hx C.hb dw_40 rfl (pl_c5 C I K)
  · exact pm_sG_ok (cf := (350, pl_0 i, [], w)) C.hx C.hb dw_40 rfl (pl_c6 C I K)
  · exact pm_sG_ok (cf := (418, pl_0 i, [], w)) C.hx C.hb dw_40 rfl (pl_c7 C I K)
  · exact pm_sG_ok (cf := (455, pl_0 i, [], w)) C.hx C.hb dw_40 rfl (pl_c8 C I K)
  · exact pm_sG_ok (cf := (492, pl_0 i, [], w)) C.hx C.hb dw_40 rfl (pl_c9 C I K)
  · exact pm_sG_ok (cf := (559, pl_0 i, [], w)) C.hx C.hb dw_40 rfl (pl_c10 C I K)
  · exact pm_sG_ok (cf := (666, pl_0 i, [], w)) C.hx C.hb dw_40 rfl (pl_c11 C I K)
  · exact pm_sG_ok (cf := (746, pl_0 i, [], w)) C.hx C.hb dw_40 rfl (pl_c12 C I K)
  · exact pm_sG_ok (cf := (826, pl_0 i, [], w)) C.hx C.hb dw_40 rfl (pl_c13 C I K)
  · exact pm_sG_ok (cf := (906, pl_0 i, [], w)) C.hx C.hb dw_40 rfl (pl_c14 C I K)
  · exact pm_sG_ok (cf := (986, pl_0 i, [], w)) C.hx C.hb dw_40 rfl (pl_c15 C I K)
  · exact pm_sG_ok (cf := (1078, pl_0 i, [], w)) C.hx C.hb dw_40 rfl (pl_c16 C I K)
  · exact pm_sG_ok (cf := (1170, pl_0 i, [], w)) C.hx C.hb dw_40 rfl (pl_c17 C I K)
  · exact pm_sG_ok (cf := (1250, pl_0 i, [], w)) C.hx C.hb dw_40 rfl (pl_c18 C I K)
  · exact pm_sG_ok (cf := (1299, pl_0 i, [], w)) C.hx C.hb dw_40 rfl (pl_c19 C I K)
  · exact pm_sG_ok (cf := (1360, pl_0 i, [], w)) C.hx C.hb dw_40 rfl (pl_c20 C I K)
  · exact pm_sG_ok (cf := (1397, pl_0 i, [], w)) C.hx C.hb dw_40 rfl (pl_c21 C I K)
  · exact pm_sG_ok (cf := (1434, pl_0 i, [], w)) C.hx C.hb dw_40 rfl (pl_c22 C I K)
  · exact pm_sG_ok (cf := (1447, pl_0 i, [], w)) C.hx C.hb dw_40 rfl hdef
  · exact pm_sG_ok (cf := (1447, pl_0 i, [], w)) C.hx C.hb dw_40 rfl hdef
  · exact pm_sG_ok (cf := (1447, pl_0 i, [], w)) C.hx C.hb dw_40 rfl hdef
  · exact pm_sG_ok (cf := (1447, pl_0 i, [], w)) C.hx C.hb dw_40 rfl hdef
  · exact pm_sG_ok (cf := (1447, pl_0 i, [], w)) C.hx C.hb dw_40 rfl hdef
  · exact pm_sG_ok (cf := (1447, pl_0 i, [], w)) C.hx C.hb dw_40 rfl hdef
  · exact pm_sG_ok (cf := (1447, pl_0 i, [], w)) C.hx C.hb dw_40 rfl hdef
  · exact pm_sG_ok (cf := (1447, pl_0 i, [], w)) C.hx C.hb dw_40 rfl hdef
  · exact pm_sG_ok (cf := (1447, pl_0 i, [], w)) C.hx C.hb dw_40 rfl hdef
theorem pl_sub {L n : Nat} (hL : L ≤ 3072) (hn : n ≤ 3072) : Int32.ofNat L - 6 < nI n ↔ L < n + 6 := by
  rw [i3_lt]
  have h1 : (Int32.ofNat L - 6).toInt = (L : Int) - 6 := by
    rw [Int32.toInt_sub]
    rw [show (Int32.ofNat L).toInt = (L : Int) from Int32.toInt_ofNat_of_lt (by omega)]
    rw [show (6 : Int32).toInt = 6 from rfl]
    rw [Int.bmod_def]
    split <;> omega
  have h2 : (nI n).toInt = (n : Int) := Int32.toInt_ofNat_of_lt (by omega)
  rw [h1, h2]
  omega
theorem pl_loop (hx : p.tables.exec = Jvm.exec) (hb : c.code = code) (hr : meth.sig.returnType = ret) (hlocks : meth.locks = false) (hargs : args = #[Value.ref b]) (hse : sz = s.heap.size) (hX : va_X b L xs s s.heap) (hbl : b < s.heap.size) (hρ : ρ 900 = b) (hL : L ≤ 3072) (hQ : Q = lw_Z below #[Value.ref b] s)
    (hC : ∀ n, 6 * n + 6 ≤ L → pl_C p l s m args c (43 + n) (3090 + 6 * n) ρ τ D sz aV b L xs (nI (6 * n))) : ∀ (f n : Nat) (w : pm_H), IV w → 6 * n ≤ L → L < 6 * (n + f) + 6 → pm_K p l e room_1 s m args below meth c (43 + n) (3090 + 6 * n) Q ρ τ D sz (23, pl_0 (nI (6 * n)), [], w) := by
  have hsz : b < sz := by rw [hse]; exact hbl
  have hend : ∀ (n : Nat) (w : pm_H), 6 * n ≤ L → pm_K p l e room_1 s m args below meth c (43 + n) (3090 + 6 * n) Q ρ τ D sz (1453, pl_0 (nI (6 * n)), [], w) := by
    intro n w hn H locs ls h1 h2 h3
    subst hQ
    subst hargs
    refine lv_iconst hx hb dw_1453 (v := 1) rfl ?_
    refine va_forget (fun q hq => by rw [← hse]; exact h2.2.2 q hq) ?_
    exact W.widen (by omega) (by omega) (lw_ret hx hb hr hlocks dw_1454)
  intro f
  induction f with
  | zero =>
    intro n w I hn hf
    refine pm_sB_ok hx hb dw_23 rfl (pm_sB_ok hx hb dw_25 rfl (pl_len hx hb hX hbl hsz hρ dw_26 (pm_sA_ok hx hb dw_27 rfl (pm_sD_ok hx hb dw_29 rfl ?_))))
    refine pr_cgt hx hb dw_30 (tgt := 1453) rfl (fun _ => hend n w hn) (fun z => absurd ((pl_sub hL (by omega)).mpr (by omega)) z)
  | succ f ih =>
    intro n w I hn hf
    refine pm_sB_ok hx hb dw_23 rfl (pm_sB_ok hx hb dw_25 rfl (pl_len hx hb hX hbl hsz hρ dw_26 (pm_sA_ok hx hb dw_27 rfl (pm_sD_ok hx hb dw_29 rfl ?_))))
    refine pr_cgt hx hb dw_30 (tgt := 1453) rfl (fun _ => hend n w hn) (fun z => ?_)
    have h6 : 6 * n + 6 ≤ L := Nat.not_lt.mp (fun q => z ((pl_sub hL (by omega)).mpr q))
    refine pl_round (hC n h6) I (fun w' I' => ?_)
    refine pm_sF_ok (cf := (1450, pl_0 (nI (6 * (n + 1))), [], w')) hx hb dw_1447 ?_ ?_
    · show some (1447 + 3, pl_0 (nI (6 * n) + Int32.ofInt 6), [], w') = _
      rw [show Int32.ofInt 6 = nI 6 from rfl, nI_add]
      rfl
    · refine pr_goto hx hb dw_1450 (tgt := 23) rfl ?_
      have := ih (n + 1) w' I' (by omega) (by omega)
      rw [show 43 + (n + 1) = 43 + n + 1 by omega, show 3090 + 6 * (n + 1) = 3090 + 6 * n + 6 by omega] at this
      exact this
theorem pl_all (hx : p.tables.exec = Jvm.exec) (hb : c.code = code) (hr : meth.sig.returnType = ret) (hml : c.maxLocals = 8) (hlocks : meth.locks = false) (hargs : args = #[Value.ref b]) (hse : sz = s.heap.size) (hX : va_X b L xs s s.heap) (hbl : b < s.heap.size) (hρ : ρ 900 = b) (hL : L ≤ 3072) (hQ : Q = lw_Z below #[Value.ref b] s) (hown : s.vm.findClass RL = some m.cls) (hts : ∀ w ∈ pm_tb, w.before args s = true) (hK : pm_Kn ρ τ D sz aV s s.heap) (hlt : l.stackTraces = false) :
    pm_K p l e room_1 s m args below meth c 0 0 Q ρ τ D sz (0, [some (.ref 900), none, none, none, none, none, none, none], [], pc_w []) := by
  have hsz : sz ≤ s.heap.size := by rw [hse]; exact Nat.le_refl _
  refine pc_new (N := 0) (own := RL) (fs := [.null, .null, .null, .null, .null, .null, .int 0]) hx hb hown hts hK hsz pt_C5 (pm_in 78 (by decide +kernel) rfl) (pm_in 79 (by decide +kernel) rfl) (pm_in 62 (by decide +kernel) rfl) (fun j hj => by rcases (show j = 0 ∨ j = 1 ∨ j = 2 ∨ j = 3 ∨ j = 4 ∨ j = 5 ∨ j = 6 by omega) with rfl | rfl | rfl | rfl | rfl | rfl | rfl <;> rfl) (fun _ => rfl) rfl (Nat.le_of_ble_eq_true rfl) rfl rfl (Nat.le_of_ble_eq_true rfl) (Nat.le_of_ble_eq_true rfl) dw_0 ?_
  intro r1 a1
  have hK1 := a1.kn hK
  have hA1 : pc_ag 0 ρ r1 := pc_ag.rf.trans a1 (Nat.le_of_ble_eq_true rfl)
  show pm_K p l e _ s m args below meth c _ _ _ r1 τ D sz (3, [some (.ref 900), none, none, none, none, none, none, none], [.ref 0], pc_w pL0)
  refine pm_sF_ok hx hb dw_3 rfl ?_
  refine pc_call (own := RL) (as := []) (rest := [.ref 0]) hx hb hml hown hts hK1 (pk_d (ρ := r1)) (pm_in 82 (by decide +kernel) rfl) (pm_in 80 (by decide +kernel) rfl) (pm_in 62 (by decide +kernel) rfl) (pm_in 81 (by decide +kernel) rfl) rfl (by decide +kernel) rfl ⟨rfl, rfl⟩ ⟨(Nat.le_of_ble_eq_true rfl), (Nat.le_of_ble_eq_true rfl)⟩ ⟨(Nat.le_of_ble_eq_true rfl), (Nat.le_of_ble_eq_true rfl)⟩ rfl rfl (Nat.le_of_ble_eq_true rfl) rfl dw_4 ?_
  intro r2 a2
  have hK2 := a2.kn hK1
  have hA2 : pc_ag 0 ρ r2 := hA1.trans a2 (Nat.le_of_ble_eq_true rfl)
  refine pm_sC_ok hx hb dw_7 rfl ?_
  show pm_K p l e _ s m args below meth c _ _ _ r2 τ D sz (8, [some (.ref 900), some (.ref 0), none, none, none, none, none, none], [], pc_w pL72)
  refine pc_new (N := 200) (own := RL) (fs := [.int 0, .null, .int 0, .int 0, .int 0, .int 0, .int 0, .int 0, .int 0, .int 0, .long 0, .null, .null, .null, .int 0, .null, .null, .null, .int 0, .int 0, .int 0, .long 0, .long 0]) hx hb hown hts hK2 hsz pt_C6 (pm_in 840 (by decide +kernel) rfl) (pm_in 834 (by decide +kernel) rfl) (pm_in 68 (by decide +kernel) rfl) (fun j hj => by rcases (show j = 0 ∨ j = 1 ∨ j = 2 ∨ j = 3 ∨ j = 4 ∨ j = 5 ∨ j = 6 ∨ j = 7 ∨ j = 8 ∨ j = 9 ∨ j = 10 ∨ j = 11 ∨ j = 12 ∨ j = 13 ∨ j = 14 ∨ j = 15 ∨ j = 16 ∨ j = 17 ∨ j = 18 ∨ j = 19 ∨ j = 20 ∨ j = 21 ∨ j = 22 by omega) with rfl | rfl | rfl | rfl | rfl | rfl | rfl | rfl | rfl | rfl | rfl | rfl | rfl | rfl | rfl | rfl | rfl | rfl | rfl | rfl | rfl | rfl | rfl <;> rfl) (fun _ => rfl) (by decide +kernel) (Nat.le_of_ble_eq_true rfl) rfl rfl (Nat.le_of_ble_eq_true rfl) (Nat.le_of_ble_eq_true rfl) dw_8 ?_
  intro r3 a3
  have hK3 := a3.kn hK2
  have hA3 : pc_ag 0 ρ r3 := hA2.trans a3 (Nat.le_of_ble_eq_true rfl)
  show pm_K p l e _ s m args below meth c _ _ _ r3 τ D sz (11, [some (.ref 900), some (.ref 0), none, none, none, none, none, none], [.ref 200], pc_w pL73)
  refine pm_sF_ok hx hb dw_11 rfl ?_
  refine pc_call (own := RL) (as := []) (rest := [.ref 200]) hx hb hml hown hts hK3 (pk_m (ρ := r3)) (pm_in 843 (by decide +kernel) rfl) (pm_in 841 (by decide +kernel) rfl) (pm_in 68 (by decide +kernel) rfl) (pm_in 842 (by decide +kernel) rfl) rfl (by decide +kernel) rfl ⟨rfl, rfl⟩ ⟨(Nat.le_of_ble_eq_true rfl), (Nat.le_of_ble_eq_true rfl)⟩ ⟨(Nat.le_of_ble_eq_true rfl), (Nat.le_of_ble_eq_true rfl)⟩ rfl rfl (Nat.le_of_ble_eq_true rfl) rfl dw_12 ?_
  intro r4 a4
  have hK4 := a4.kn hK3
  have hA4 : pc_ag 0 ρ r4 := hA3.trans a4 (Nat.le_of_ble_eq_true rfl)
  refine pm_sC_ok hx hb dw_15 rfl ?_
  refine pm_sA_ok hx hb dw_16 rfl ?_
  show pm_K p l e _ s m args below meth c _ _ _ r4 τ D sz (17, [some (.ref 900), some (.ref 0), some (.ref 200), none, none, none, none, none], [.int 1], pc_w pL88)
  refine pc_newa (N := 300) (t := 1) (N' := 1) (ty := .long) (a0 := (1, .inr (.inl (fun _ => 0)))) hx hb hts hK4 hsz rfl rfl (fun h => h) (pm_in 181 (by decide +kernel) rfl) (fun _ => rfl) (by decide +kernel) (by decide +kernel) (by decide +kernel) (by decide +kernel) (Nat.le_of_ble_eq_true rfl) rfl rfl (Nat.le_of_ble_eq_true rfl) (Nat.le_of_ble_eq_true rfl) dw_17 ?_
  intro r5 a5
  have hK5 := a5.kn hK4
  have hA5 : pc_ag 0 ρ r5 := hA4.trans a5 (Nat.le_of_ble_eq_true rfl)
  refine pm_sC_ok hx hb dw_19 rfl ?_
  refine pm_sA_ok hx hb dw_20 rfl ?_
  refine pm_sC_ok hx hb dw_21 rfl ?_
  show pm_K p l e room_1 s m args below meth c _ _ Q r5 τ D sz (23, pl_0 (nI (6 * 0)), [], pc_w pL89)
  have hρ5 : r5 900 = b := (hA5 900 (Or.inr (by omega))).trans hρ
  refine pr_widen (c2 := 43 + 0) (s2 := 3090 + 6 * 0) (Nat.le_of_ble_eq_true rfl) (Nat.le_of_ble_eq_true rfl) ?_
  refine pl_loop hx hb hr hlocks hargs hse hX hbl hρ5 hL hQ (fun n hn => ⟨hx, hb, hml, hown, hts, hK5, hX, hbl, by rw [hse]; exact hbl, hρ5, fun kv h0 h5 => ?_, by omega, by omega, hlt⟩) (L / 6 + 1) 0 _ pl_I0 (Nat.zero_le _) (by omega)
  obtain ⟨k, rfl⟩ := Int.eq_ofNat_of_zero_le h0
  rw [show Int32.ofInt (k : Int) = nI k from rfl, nI_add]
  exact vp_in_nI (by omega) (by omega)
end PLL
