set_option maxHeartbeats 4000000 in
set_option maxRecDepth 100000 in
theorem wMo_counted_4 {p : Program} {l : Launch} {e : Env} {s : State} {m : MethodId} {args : Array Value} {below : List Frame} {meth : Method} {c : Code} {A : Nat → Prop} {Q : State → Prop} {D : va_G} {cs : Nat → ClassId} {a : Nat → Nat} {σ : St} {Λ : Nat → Int64} {r : Int32} {N : Nat} (S : Fx p m c cX7_counted 4 s args RX7) (hK : va_K D vwCl (tyL cs) s) (hA : ∀ x, s.heap.size ≤ x → A x) (hQ : ∀ (H : Heap) (locs : List Loc) (pc : Nat) (ls : Array Slot), decode cX7_counted pc = .ok (.ireturn, 1) → narrow .int (.int r) = .int r → Wd D A s.heap (wMo cs a σ Λ) H locs → W p l e { frames := 0, cells := 0, slots := 0, locals := 0 } s m args below meth c H locs 0 0 Q (F0 m pc ls [.int r])) : ∀ (n_4 : Nat) (v1 : Int32) (v2 : Int32) (v3 : Int32) (H : Heap) (locs : List Loc) (ls : Array Slot), fMo_counted_4 N σ n_4 v1 v2 v3 = some r → Wd D A s.heap (wMo cs a σ Λ) H locs → lv_has ls 4 [(0, .ref (a 0)), (1, .int v1), (2, .int v2), (3, .int v3)] → W p l e { frames := 0, cells := 0, slots := 0, locals := 0 } s m args below meth c H locs 0 0 Q (F0 m 4 ls []) := by
  intro n_4
  induction n_4 with
  | zero =>
    intro v1 v2 v3 H locs ls h
    cases h
  | succ n_4 ih =>
    intro v1 v2 v3 H locs ls h hW hl
    unfold fMo_counted_4 at h
    refine lv_iload_n S.1 S.2.1 dX7_counted_4 rfl (lv_at hl 3 rfl) ?_
    refine lv_sipush (v := 400) S.1 S.2.1 dX7_counted_5 (by decide) ?_
    refine lv_icmp_ge (tgt := 27) S.1 S.2.1 dX7_counted_8 (by decide) (fun c_1 => ?_) (fun c_1 => ?_)
    · have h := ite_t c_1 h
      refine lv_iload_n S.1 S.2.1 dX7_counted_27 rfl (lv_at hl 1 rfl) ?_
      refine lv_iload_n S.1 S.2.1 dX7_counted_28 rfl (lv_at hl 2 rfl) ?_
      refine lv_imul S.1 S.2.1 dX7_counted_29 ?_
      obtain rfl := pr1 h
      exact hQ _ _ _ _ dX7_counted_30 rfl hW
    · have h := ite_f c_1 h
      refine lv_iload_n S.1 S.2.1 dX7_counted_11 rfl (lv_at hl 2 rfl) ?_
      refine lv_aload_n S.1 S.2.1 dX7_counted_12 rfl (lv_at hl 0 rfl) ?_
      refine gMo_seen S hK hW dX7_counted_13 ?_
      refine lv_iload_n S.1 S.2.1 dX7_counted_16 rfl (lv_at hl 3 rfl) ?_
      obtain ⟨hi_2, h⟩ := gI_some h
      refine lMo_seen S hK hW hi_2 dX7_counted_17 ?_
      refine lv_iadd S.1 S.2.1 dX7_counted_18 ?_
      refine lv_topi (fun x2_3 ex2_3 => ?_)
      have h := nm_to ex2_3 h
      refine lv_istore_n (lv' := [(2, .int x2_3), (0, .ref (a 0)), (1, .int v1), (3, .int v3)]) S.1 S.2.1 dX7_counted_19 rfl hl (by decide) rfl (fun ls hl => ?_)
      refine lv_iload_n S.1 S.2.1 dX7_counted_20 rfl (lv_at hl 3 rfl) ?_
      refine lv_iload_n S.1 S.2.1 dX7_counted_21 rfl (lv_at hl 2 rfl) ?_
      refine lv_iadd S.1 S.2.1 dX7_counted_22 ?_
      refine lv_topi (fun x3_4 ex3_4 => ?_)
      have h := nm_to ex3_4 h
      refine lv_istore_n (lv' := [(3, .int x3_4), (2, .int x2_3), (0, .ref (a 0)), (1, .int v1)]) S.1 S.2.1 dX7_counted_23 rfl hl (by decide) rfl (fun ls hl => ?_)
      refine lv_goto (tgt := 4) S.1 S.2.1 dX7_counted_24 (by decide) ?_
      exact ih v1 x2_3 x3_4 _ _ _ h hW (lv_sub hl [2, 3, 1, 0] rfl)
set_option maxHeartbeats 4000000 in
set_option maxRecDepth 100000 in
theorem cMo_counted (l : Launch) (D : va_G) (cs : Nat → ClassId) (a : Nat → Nat) (σ : St) (Λ : Nat → Int64) (p0 : Int32) (N : Nat) {r : Int32} (h : fMo_counted N p0 σ = some r) : Ki l D cs none yX7_counted cX7_counted 4 (some .int) 0 0 (wMo cs a σ Λ) [.ref (a 0), .int p0] r (wMo cs a σ Λ) := by
  refine Ki_of (by decide +kernel) (Nat.le_of_ble_eq_true rfl) (fun p e s m below meth c A S hK hA hZ Q hQ ls hl hW => ?_)
  have hl : lv_has ls 4 [(0, .ref (a 0)), (1, .int p0)] := hl
  unfold fMo_counted at h
  refine lv_iconst (v := 0) S.1 S.2.1 dX7_counted_0 (by decide) ?_
  refine lv_istore_n (lv' := [(2, .int (0 : Int32)), (0, .ref (a 0)), (1, .int p0)]) S.1 S.2.1 dX7_counted_1 rfl hl (by decide) rfl (fun ls hl => ?_)
  refine lv_iconst (v := 0) S.1 S.2.1 dX7_counted_2 (by decide) ?_
  refine lv_istore_n (lv' := [(3, .int (0 : Int32)), (2, .int (0 : Int32)), (0, .ref (a 0)), (1, .int p0)]) S.1 S.2.1 dX7_counted_3 rfl hl (by decide) rfl (fun ls hl => ?_)
  exact wMo_counted_4 S hK hA hQ N p0 (0 : Int32) (0 : Int32) _ _ _ h hW (lv_sub hl [2, 3, 1, 0] rfl)
set_option maxHeartbeats 4000000 in
set_option maxRecDepth 100000 in
theorem wMo_rounds_19 {p : Program} {l : Launch} {e : Env} {s : State} {m : MethodId} {args : Array Value} {below : List Frame} {meth : Method} {c : Code} {A : Nat → Prop} {Q : State → Prop} {D : va_G} {cs : Nat → ClassId} {a : Nat → Nat} {Λ : Nat → Int64} {r : Int32} {σ' : St} {N : Nat} (S : Fx p m c cX7_rounds 3 s args RX7) (hK : va_K D vwCl (tyL cs) s) (hA : ∀ x, s.heap.size ≤ x → A x) (hQ : ∀ (H : Heap) (locs : List Loc) (pc : Nat) (ls : Array Slot), decode cX7_rounds pc = .ok (.ireturn, 1) → narrow .int (.int r) = .int r → Wd D A s.heap (wMo cs a σ' Λ) H locs → W p l e { frames := 7, cells := 0, slots := 0, locals := 172 } s m args below meth c H locs 0 0 Q (F0 m pc ls [.int r])) : ∀ (σ : St) (H : Heap) (locs : List Loc) (ls : Array Slot), fMo_rounds_19 N σ = some (r, σ') → Wd D A s.heap (wMo cs a σ Λ) H locs → lv_has ls 3 [] → W p l e { frames := 7, cells := 0, slots := 0, locals := 172 } s m args below meth c H locs 0 0 Q (F0 m 19 ls []) := by
  intro σ H locs ls h hW hl
  unfold fMo_rounds_19 at h
  refine lv_iconst (v := -1) S.1 S.2.1 dX7_rounds_19 (by decide) ?_
  obtain ⟨rfl, rfl⟩ := pr2 h
  exact hQ _ _ _ _ dX7_rounds_20 rfl hW
set_option maxHeartbeats 4000000 in
set_option maxRecDepth 100000 in
theorem cMo_rounds (l : Launch) (D : va_G) (cs : Nat → ClassId) (a : Nat → Nat) (σ : St) (Λ : Nat → Int64) (p0 : Int32) (p1 : Int32) (N : Nat) {r : Int32} {σ' : St} (h : fMo_rounds N p0 p1 σ = some (r, σ')) : Ki l D cs none yX7_rounds cX7_rounds 3 (some .int) 7 172 (wMo cs a σ Λ) [.ref (a 0), .int p0, .int p1] r (wMo cs a σ' Λ) := by
  refine Ki_of (by decide +kernel) (Nat.le_of_ble_eq_true rfl) (fun p e s m below meth c A S hK hA hZ Q hQ ls hl hW => ?_)
  have hl : lv_has ls 3 [(0, .ref (a 0)), (1, .int p0), (2, .int p1)] := hl
  unfold fMo_rounds at h
  refine lv_iload_n S.1 S.2.1 dX7_rounds_0 rfl (lv_at hl 1 rfl) ?_
  obtain ⟨r_1, hc_2, h⟩ := cl1_some h
  refine kS_i (As := [.int p0]) (rest := []) S hK hA (z := none) trivial [] (wMo cs a σ Λ) hW (cMo_isRule l D cs p0 N hc_2) lk_X7_183 q840 ⟨Nat.le_of_ble_eq_true rfl, Nat.le_of_ble_eq_true rfl⟩ rfl (Nat.le_of_ble_eq_true rfl) hl.1 dX7_rounds_1 ⟨Nat.zero_le _, Nat.zero_le _⟩ (fun H locs hW => ?_)
  have hW : Wd D A s.heap (wMo cs a σ Λ) H locs := hW
  refine lv_if_eq (tgt := 19) S.1 S.2.1 dX7_rounds_4 (by decide) (fun c_3 => ?_) (fun c_3 => ?_)
  · have h := ite_t c_3 h
    exact wMo_rounds_19 S hK hA hQ σ _ _ _ h hW (lv_sub hl [] rfl)
  · have h := ite_f c_3 h
    refine lv_iload_n S.1 S.2.1 dX7_rounds_7 rfl (lv_at hl 2 rfl) ?_
    refine lv_i2l S.1 S.2.1 dX7_rounds_8 rfl ?_
    refine lv_lconst (v := 1) S.1 S.2.1 dX7_rounds_9 (by decide) ?_
    refine lv_ldc2 (v := 99) S.1 S.2.1 S.2.2.2.1 (S.2.2.2.2 _ q919) dX7_rounds_10 ?_
    obtain ⟨r_4, hc_5, h⟩ := cl1_some h
    refine kS_i (As := [.long (p1.toInt64), .long (1 : Int64), .long (99 : Int64)]) (rest := []) S hK hA (z := none) trivial [] (wMo cs a σ Λ) hW (cMo_in l D cs (p1.toInt64) (1 : Int64) (99 : Int64) N hc_5) lk_X7_80 q777 ⟨Nat.le_of_ble_eq_true rfl, Nat.le_of_ble_eq_true rfl⟩ rfl (Nat.le_of_ble_eq_true rfl) hl.1 dX7_rounds_13 ⟨Nat.zero_le _, Nat.zero_le _⟩ (fun H locs hW => ?_)
    have hW : Wd D A s.heap (wMo cs a σ Λ) H locs := hW
    refine lv_if_ne (tgt := 21) S.1 S.2.1 dX7_rounds_16 (by decide) (fun c_6 => ?_) (fun c_6 => ?_)
    · have h := ite_f c_6 h
      refine lv_aload_n S.1 S.2.1 dX7_rounds_21 rfl (lv_at hl 0 rfl) ?_
      refine lv_iload_n S.1 S.2.1 dX7_rounds_22 rfl (lv_at hl 1 rfl) ?_
      obtain ⟨σ_7, hc_8, h⟩ := cl1_some h
      have hW := kw_same hW
      refine kV_v (As := [.int p0]) (rest := []) S hK hA (z := none) trivial [] [] hW (cMo_whole l D cs a σ Λ p0 N hc_8) (ci := 6) rfl rfl lk_X7_191 q893 q35 ⟨Nat.le_of_ble_eq_true rfl, Nat.le_of_ble_eq_true rfl⟩ rfl (Nat.le_of_ble_eq_true rfl) hl.1 dX7_rounds_23 ⟨Nat.zero_le _, Nat.zero_le _⟩ (fun H locs hW => ?_)
      have hW : Wd D A s.heap (wMo cs a σ_7 Λ) H locs := kw_back hW
      refine lv_aload_n S.1 S.2.1 dX7_rounds_26 rfl (lv_at hl 0 rfl) ?_
      refine lv_iload_n S.1 S.2.1 dX7_rounds_27 rfl (lv_at hl 2 rfl) ?_
      obtain ⟨r_9, hc_10, h⟩ := cl1_some h
      have hW := kw_same hW
      refine kV_i (As := [.int p1]) (rest := []) S hK hA (z := none) trivial [] [] hW (cMo_counted l D cs a σ_7 Λ p1 N hc_10) (ci := 6) rfl rfl lk_X7_202 q922 q36 ⟨Nat.le_of_ble_eq_true rfl, Nat.le_of_ble_eq_true rfl⟩ rfl (Nat.le_of_ble_eq_true rfl) hl.1 dX7_rounds_28 ⟨Nat.zero_le _, Nat.zero_le _⟩ (fun H locs hW => ?_)
      have hW : Wd D A s.heap (wMo cs a σ_7 Λ) H locs := kw_back hW
      obtain ⟨rfl, rfl⟩ := pr2 h
      exact hQ _ _ _ _ dX7_rounds_31 rfl hW
    · have h := ite_t c_6 h
      exact wMo_rounds_19 S hK hA hQ σ _ _ _ h hW (lv_sub hl [] rfl)
set_option maxHeartbeats 4000000 in
set_option maxRecDepth 100000 in
theorem wMo_often_19 {p : Program} {l : Launch} {e : Env} {s : State} {m : MethodId} {args : Array Value} {below : List Frame} {meth : Method} {c : Code} {A : Nat → Prop} {Q : State → Prop} {D : va_G} {cs : Nat → ClassId} {a : Nat → Nat} {Λ : Nat → Int64} {r : Int32} {σ' : St} {N : Nat} (S : Fx p m c cX7_often 5 s args RX7) (hK : va_K D vwCl (tyL cs) s) (hA : ∀ x, s.heap.size ≤ x → A x) (hQ : ∀ (H : Heap) (locs : List Loc) (pc : Nat) (ls : Array Slot), decode cX7_often pc = .ok (.ireturn, 1) → narrow .int (.int r) = .int r → Wd D A s.heap (wMo cs a σ' Λ) H locs → W p l e { frames := 7, cells := 0, slots := 0, locals := 172 } s m args below meth c H locs 0 0 Q (F0 m pc ls [.int r])) : ∀ (σ : St) (H : Heap) (locs : List Loc) (ls : Array Slot), fMo_often_19 N σ = some (r, σ') → Wd D A s.heap (wMo cs a σ Λ) H locs → lv_has ls 5 [] → W p l e { frames := 7, cells := 0, slots := 0, locals := 172 } s m args below meth c H locs 0 0 Q (F0 m 19 ls []) := by
  intro σ H locs ls h hW hl
  unfold fMo_often_19 at h
  refine lv_iconst (v := -1) S.1 S.2.1 dX7_often_19 (by decide) ?_
  obtain ⟨rfl, rfl⟩ := pr2 h
  exact hQ _ _ _ _ dX7_often_20 rfl hW
set_option maxHeartbeats 4000000 in
set_option maxRecDepth 100000 in
theorem wMo_often_68 {p : Program} {l : Launch} {e : Env} {s : State} {m : MethodId} {args : Array Value} {below : List Frame} {meth : Method} {c : Code} {A : Nat → Prop} {Q : State → Prop} {D : va_G} {cs : Nat → ClassId} {a : Nat → Nat} {Λ : Nat → Int64} {r : Int32} {σ' : St} {N : Nat} (S : Fx p m c cX7_often 5 s args RX7) (hK : va_K D vwCl (tyL cs) s) (hA : ∀ x, s.heap.size ≤ x → A x) (hQ : ∀ (H : Heap) (locs : List Loc) (pc : Nat) (ls : Array Slot), decode cX7_often pc = .ok (.ireturn, 1) → narrow .int (.int r) = .int r → Wd D A s.heap (wMo cs a σ' Λ) H locs → W p l e { frames := 7, cells := 0, slots := 0, locals := 172 } s m args below meth c H locs 0 0 Q (F0 m pc ls [.int r])) {k_32 : Int32 → Int32 → Int32 → St → Option (Int32 × St)} (hk_32 : ∀ (v2 : Int32) (v3 : Int32) (v4 : Int32) (σ : St) (H : Heap) (locs : List Loc) (ls : Array Slot), k_32 v2 v3 v4 σ = some (r, σ') → Wd D A s.heap (wMo cs a σ Λ) H locs → lv_has ls 5 [(0, .ref (a 0)), (2, .int v2), (3, .int v3), (4, .int v4)] → W p l e { frames := 7, cells := 0, slots := 0, locals := 172 } s m args below meth c H locs 0 0 Q (F0 m 32 ls [])) : ∀ (v2 : Int32) (v4 : Int32) (k0 : Int32) (σ : St) (H : Heap) (locs : List Loc) (ls : Array Slot), fMo_often_68 k_32 N v2 v4 k0 σ = some (r, σ') → Wd D A s.heap (wMo cs a σ Λ) H locs → lv_has ls 5 [(0, .ref (a 0)), (2, .int v2), (4, .int v4)] → W p l e { frames := 7, cells := 0, slots := 0, locals := 172 } s m args below meth c H locs 0 0 Q (F0 m 68 ls [.int k0]) := by
  intro v2 v4 k0 σ H locs ls h hW hl
  unfold fMo_often_68 at h
  refine lv_istore_n (lv' := [(3, .int k0), (0, .ref (a 0)), (2, .int v2), (4, .int v4)]) S.1 S.2.1 dX7_often_68 rfl hl (by decide) rfl (fun ls hl => ?_)
  obtain ⟨x4_1, ex4_1, h⟩ := nm_some h
  refine lv_iinc (v := x4_1) (lv' := [(4, .int x4_1), (3, .int k0), (0, .ref (a 0)), (2, .int v2)]) S.1 S.2.1 dX7_often_69 hl (k := 3) rfl (by rw [ex4_1]; rfl) (by decide) rfl (fun ls hl => ?_)
  refine lv_goto (tgt := 32) S.1 S.2.1 dX7_often_72 (by decide) ?_
  exact hk_32 v2 k0 x4_1 σ _ _ _ h hW (lv_sub hl [2, 3, 1, 0] rfl)
set_option maxHeartbeats 4000000 in
set_option maxRecDepth 100000 in
theorem wMo_often_32 {p : Program} {l : Launch} {e : Env} {s : State} {m : MethodId} {args : Array Value} {below : List Frame} {meth : Method} {c : Code} {A : Nat → Prop} {Q : State → Prop} {D : va_G} {cs : Nat → ClassId} {a : Nat → Nat} {Λ : Nat → Int64} {r : Int32} {σ' : St} {N : Nat} (S : Fx p m c cX7_often 5 s args RX7) (hK : va_K D vwCl (tyL cs) s) (hA : ∀ x, s.heap.size ≤ x → A x) (hQ : ∀ (H : Heap) (locs : List Loc) (pc : Nat) (ls : Array Slot), decode cX7_often pc = .ok (.ireturn, 1) → narrow .int (.int r) = .int r → Wd D A s.heap (wMo cs a σ' Λ) H locs → W p l e { frames := 7, cells := 0, slots := 0, locals := 172 } s m args below meth c H locs 0 0 Q (F0 m pc ls [.int r])) : ∀ (n_32 : Nat) (v2 : Int32) (v3 : Int32) (v4 : Int32) (σ : St) (H : Heap) (locs : List Loc) (ls : Array Slot), fMo_often_32 N n_32 v2 v3 v4 σ = some (r, σ') → Wd D A s.heap (wMo cs a σ Λ) H locs → lv_has ls 5 [(0, .ref (a 0)), (2, .int v2), (3, .int v3), (4, .int v4)] → W p l e { frames := 7, cells := 0, slots := 0, locals := 172 } s m args below meth c H locs 0 0 Q (F0 m 32 ls []) := by
  intro n_32
  induction n_32 with
  | zero =>
    intro v2 v3 v4 σ H locs ls h
    cases h
  | succ n_32 ih =>
    intro v2 v3 v4 σ H locs ls h hW hl
    unfold fMo_often_32 at h
    refine lv_iload S.1 S.2.1 dX7_often_32 (lv_at hl 3 rfl) ?_
    refine lv_bipush (v := 100) S.1 S.2.1 dX7_often_34 (by decide) ?_
    refine lv_icmp_ge (tgt := 75) S.1 S.2.1 dX7_often_36 (by decide) (fun c_2 => ?_) (fun c_2 => ?_)
    · have h := ite_t c_2 h
      refine lv_iload_n S.1 S.2.1 dX7_often_75 rfl (lv_at hl 2 rfl) ?_
      obtain ⟨rfl, rfl⟩ := pr2 h
      exact hQ _ _ _ _ dX7_often_76 rfl hW
    · have h := ite_f c_2 h
      refine lv_aload_n S.1 S.2.1 dX7_often_39 rfl (lv_at hl 0 rfl) ?_
      refine lv_iload S.1 S.2.1 dX7_often_40 (lv_at hl 3 rfl) ?_
      obtain ⟨r_3, hc_4, h⟩ := cl1_some h
      have hW := kw_same hW
      refine kV_i (As := [.int v4]) (rest := []) S hK hA (z := none) trivial [] [] hW (cMo_counted l D cs a σ Λ v4 N hc_4) (ci := 6) rfl rfl lk_X7_202 q922 q36 ⟨Nat.le_of_ble_eq_true rfl, Nat.le_of_ble_eq_true rfl⟩ rfl (Nat.le_of_ble_eq_true rfl) hl.1 dX7_often_42 ⟨Nat.zero_le _, Nat.zero_le _⟩ (fun H locs hW => ?_)
      have hW : Wd D A s.heap (wMo cs a σ Λ) H locs := kw_back hW
      refine lv_aload_n S.1 S.2.1 dX7_often_45 rfl (lv_at hl 0 rfl) ?_
      refine gMo_used S hK hW dX7_often_46 ?_
      refine lv_isub S.1 S.2.1 dX7_often_49 ?_
      refine lv_i2l S.1 S.2.1 dX7_often_50 rfl ?_
      refine lv_iload_n S.1 S.2.1 dX7_often_51 rfl (lv_at hl 1 rfl) ?_
      refine lv_ineg S.1 S.2.1 dX7_often_52 ?_
      refine lv_i2l S.1 S.2.1 dX7_often_53 rfl ?_
      refine lv_iload_n S.1 S.2.1 dX7_often_54 rfl (lv_at hl 1 rfl) ?_
      refine lv_i2l S.1 S.2.1 dX7_often_55 rfl ?_
      obtain ⟨r_5, hc_6, h⟩ := cl1_some h
      refine kS_i (As := [.long ((r_3 - (σ 0 20)).toInt64), .long ((-v2).toInt64), .long (v2.toInt64)]) (rest := []) S hK hA (z := none) trivial [] (wMo cs a σ Λ) hW (cMo_in l D cs ((r_3 - (σ 0 20)).toInt64) ((-v2).toInt64) (v2.toInt64) N hc_6) lk_X7_80 q777 ⟨Nat.le_of_ble_eq_true rfl, Nat.le_of_ble_eq_true rfl⟩ rfl (Nat.le_of_ble_eq_true rfl) hl.1 dX7_often_56 ⟨Nat.zero_le _, Nat.zero_le _⟩ (fun H locs hW => ?_)
      have hW : Wd D A s.heap (wMo cs a σ Λ) H locs := hW
      refine lv_if_eq (tgt := 67) S.1 S.2.1 dX7_often_59 (by decide) (fun c_7 => ?_) (fun c_7 => ?_)
      · have h := ite_t c_7 h
        refine lv_iload_n S.1 S.2.1 dX7_often_67 rfl (lv_at hl 2 rfl) ?_
        exact wMo_often_68 S hK hA hQ ih v2 v4 v3 σ _ _ _ h hW (lv_sub hl [0, 1, 3] rfl)
      · have h := ite_f c_7 h
        refine lv_iload S.1 S.2.1 dX7_often_62 (lv_at hl 3 rfl) ?_
        refine lv_goto (tgt := 68) S.1 S.2.1 dX7_often_64 (by decide) ?_
        exact wMo_often_68 S hK hA hQ ih v2 v4 v4 σ _ _ _ h hW (lv_sub hl [0, 1, 3] rfl)
set_option maxHeartbeats 4000000 in
set_option maxRecDepth 100000 in
theorem cMo_often (l : Launch) (D : va_G) (cs : Nat → ClassId) (a : Nat → Nat) (σ : St) (Λ : Nat → Int64) (p0 : Int32) (p1 : Int32) (N : Nat) {r : Int32} {σ' : St} (h : fMo_often N p0 p1 σ = some (r, σ')) : Ki l D cs none yX7_often cX7_often 5 (some .int) 7 172 (wMo cs a σ Λ) [.ref (a 0), .int p0, .int p1] r (wMo cs a σ' Λ) := by
  refine Ki_of (by decide +kernel) (Nat.le_of_ble_eq_true rfl) (fun p e s m below meth c A S hK hA hZ Q hQ ls hl hW => ?_)
  have hl : lv_has ls 5 [(0, .ref (a 0)), (1, .int p0), (2, .int p1)] := hl
  unfold fMo_often at h
  refine lv_iload_n S.1 S.2.1 dX7_often_0 rfl (lv_at hl 1 rfl) ?_
  obtain ⟨r_8, hc_9, h⟩ := cl1_some h
  refine kS_i (As := [.int p0]) (rest := []) S hK hA (z := none) trivial [] (wMo cs a σ Λ) hW (cMo_isRule l D cs p0 N hc_9) lk_X7_183 q840 ⟨Nat.le_of_ble_eq_true rfl, Nat.le_of_ble_eq_true rfl⟩ rfl (Nat.le_of_ble_eq_true rfl) hl.1 dX7_often_1 ⟨Nat.zero_le _, Nat.zero_le _⟩ (fun H locs hW => ?_)
  have hW : Wd D A s.heap (wMo cs a σ Λ) H locs := hW
  refine lv_if_eq (tgt := 19) S.1 S.2.1 dX7_often_4 (by decide) (fun c_10 => ?_) (fun c_10 => ?_)
  · have h := ite_t c_10 h
    exact wMo_often_19 S hK hA hQ σ _ _ _ h hW (lv_sub hl [] rfl)
  · have h := ite_f c_10 h
    refine lv_iload_n S.1 S.2.1 dX7_often_7 rfl (lv_at hl 2 rfl) ?_
    refine lv_i2l S.1 S.2.1 dX7_often_8 rfl ?_
    refine lv_lconst (v := 0) S.1 S.2.1 dX7_often_9 (by decide) ?_
    refine lv_ldc2 (v := 9999) S.1 S.2.1 S.2.2.2.1 (S.2.2.2.2 _ q928) dX7_often_10 ?_
    obtain ⟨r_11, hc_12, h⟩ := cl1_some h
    refine kS_i (As := [.long (p1.toInt64), .long (0 : Int64), .long (9999 : Int64)]) (rest := []) S hK hA (z := none) trivial [] (wMo cs a σ Λ) hW (cMo_in l D cs (p1.toInt64) (0 : Int64) (9999 : Int64) N hc_12) lk_X7_80 q777 ⟨Nat.le_of_ble_eq_true rfl, Nat.le_of_ble_eq_true rfl⟩ rfl (Nat.le_of_ble_eq_true rfl) hl.1 dX7_often_13 ⟨Nat.zero_le _, Nat.zero_le _⟩ (fun H locs hW => ?_)
    have hW : Wd D A s.heap (wMo cs a σ Λ) H locs := hW
    refine lv_if_ne (tgt := 21) S.1 S.2.1 dX7_often_16 (by decide) (fun c_13 => ?_) (fun c_13 => ?_)
    · have h := ite_f c_13 h
      refine lv_aload_n S.1 S.2.1 dX7_often_21 rfl (lv_at hl 0 rfl) ?_
      refine lv_iload_n S.1 S.2.1 dX7_often_22 rfl (lv_at hl 1 rfl) ?_
      obtain ⟨σ_14, hc_15, h⟩ := cl1_some h
      have hW := kw_same hW
      refine kV_v (As := [.int p0]) (rest := []) S hK hA (z := none) trivial [] [] hW (cMo_whole l D cs a σ Λ p0 N hc_15) (ci := 6) rfl rfl lk_X7_191 q893 q35 ⟨Nat.le_of_ble_eq_true rfl, Nat.le_of_ble_eq_true rfl⟩ rfl (Nat.le_of_ble_eq_true rfl) hl.1 dX7_often_23 ⟨Nat.zero_le _, Nat.zero_le _⟩ (fun H locs hW => ?_)
      have hW : Wd D A s.heap (wMo cs a σ_14 Λ) H locs := kw_back hW
      refine lv_bipush (v := -4) S.1 S.2.1 dX7_often_26 (by decide) ?_
      refine lv_istore_n (lv' := [(3, .int (-4 : Int32)), (0, .ref (a 0)), (1, .int p0), (2, .int p1)]) S.1 S.2.1 dX7_often_28 rfl hl (by decide) rfl (fun ls hl => ?_)
      refine lv_iconst (v := 1) S.1 S.2.1 dX7_often_29 (by decide) ?_
      refine lv_istore (lv' := [(4, .int (1 : Int32)), (3, .int (-4 : Int32)), (0, .ref (a 0)), (1, .int p0), (2, .int p1)]) S.1 S.2.1 dX7_often_30 hl (by decide) rfl (fun ls hl => ?_)
      exact wMo_often_32 S hK hA hQ N p1 (-4 : Int32) (1 : Int32) σ_14 _ _ _ h hW (lv_sub hl [2, 4, 1, 0] rfl)
    · have h := ite_t c_13 h
      exact wMo_often_19 S hK hA hQ σ _ _ _ h hW (lv_sub hl [] rfl)
set_option maxHeartbeats 4000000 in
set_option maxRecDepth 100000 in
theorem wMo_porter_17 {p : Program} {l : Launch} {e : Env} {s : State} {m : MethodId} {args : Array Value} {below : List Frame} {meth : Method} {c : Code} {A : Nat → Prop} {Q : State → Prop} {D : va_G} {cs : Nat → ClassId} {a : Nat → Nat} {Λ : Nat → Int64} {r : Int32} {σ' : St} {N : Nat} (S : Fx p m c cX7_porter 3 s args RX7) (hK : va_K D vwCl (tyL cs) s) (hA : ∀ x, s.heap.size ≤ x → A x) (hQ : ∀ (H : Heap) (locs : List Loc) (pc : Nat) (ls : Array Slot), decode cX7_porter pc = .ok (.ireturn, 1) → narrow .int (.int r) = .int r → Wd D A s.heap (wMo cs a σ' Λ) H locs → W p l e { frames := 6, cells := 0, slots := 0, locals := 151 } s m args below meth c H locs 0 0 Q (F0 m pc ls [.int r])) : ∀ (n_17 : Nat) (v1 : Int32) (v2 : Int32) (σ : St) (H : Heap) (locs : List Loc) (ls : Array Slot), fMo_porter_17 N n_17 v1 v2 σ = some (r, σ') → Wd D A s.heap (wMo cs a σ Λ) H locs → lv_has ls 3 [(0, .ref (a 0)), (1, .int v1), (2, .int v2)] → W p l e { frames := 6, cells := 0, slots := 0, locals := 151 } s m args below meth c H locs 0 0 Q (F0 m 17 ls []) := by
  intro n_17
  induction n_17 with
  | zero =>
    intro v1 v2 σ H locs ls h
    cases h
  | succ n_17 ih =>
    intro v1 v2 σ H locs ls h hW hl
    unfold fMo_porter_17 at h
    refine lv_iload_n S.1 S.2.1 dX7_porter_17 rfl (lv_at hl 2 rfl) ?_
    refine lv_if_le (tgt := 59) S.1 S.2.1 dX7_porter_18 (by decide) (fun c_1 => ?_) (fun c_1 => ?_)
    · have h := ite_t c_1 h
      refine lv_bipush (v := -4) S.1 S.2.1 dX7_porter_59 (by decide) ?_
      obtain ⟨rfl, rfl⟩ := pr2 h
      exact hQ _ _ _ _ dX7_porter_61 rfl hW
    · have h := ite_f c_1 h
      refine lv_aload_n S.1 S.2.1 dX7_porter_21 rfl (lv_at hl 0 rfl) ?_
      refine lv_iconst (v := 2) S.1 S.2.1 dX7_porter_22 (by decide) ?_
      refine lv_aload_n S.1 S.2.1 dX7_porter_23 rfl (lv_at hl 0 rfl) ?_
      refine gMo_holders S hK hW dX7_porter_24 ?_
      refine lv_sipush (v := 399) S.1 S.2.1 dX7_porter_27 (by decide) ?_
      refine lv_aload_n S.1 S.2.1 dX7_porter_30 rfl (lv_at hl 0 rfl) ?_
      refine gMo_told S hK hW dX7_porter_31 ?_
      refine lv_iconst (v := 0) S.1 S.2.1 dX7_porter_34 (by decide) ?_
      obtain ⟨hi_2, h⟩ := gI_some h
      refine lMo_told S hK hW hi_2 dX7_porter_35 ?_
      refine lv_iload_n S.1 S.2.1 dX7_porter_36 rfl (lv_at hl 2 rfl) ?_
      obtain ⟨σ_3, hc_4, h⟩ := cl1_some h
      have hW := kw_same hW
      refine kV_v (As := [.int (2 : Int32), .int (σ 0 8), .int (399 : Int32), .int (σ 8 (0 : Int32).toNatClampNeg), .int v2]) (rest := []) S hK hA (z := none) trivial [] [] hW (cMo_goes l D cs a σ Λ (2 : Int32) (σ 0 8) (399 : Int32) (σ 8 (0 : Int32).toNatClampNeg) v2 N hc_4) (ci := 6) rfl rfl lk_X7_180 q849 q27 ⟨Nat.le_of_ble_eq_true rfl, Nat.le_of_ble_eq_true rfl⟩ rfl (Nat.le_of_ble_eq_true rfl) hl.1 dX7_porter_37 ⟨Nat.zero_le _, Nat.zero_le _⟩ (fun H locs hW => ?_)
      have hW : Wd D A s.heap (wMo cs a σ_3 Λ) H locs := kw_back hW
      refine lv_aload_n S.1 S.2.1 dX7_porter_40 rfl (lv_at hl 0 rfl) ?_
      refine gMo_shut S hK hW dX7_porter_41 ?_
      obtain ⟨r_5, hc_6, h⟩ := cl1_some h
      refine kS_i (As := [.int (σ_3 0 22)]) (rest := []) S hK hA (z := none) trivial [] (wMo cs a σ_3 Λ) hW (cMo_many l D cs (σ_3 0 22) N hc_6) lk_X7_195 q896 ⟨Nat.le_of_ble_eq_true rfl, Nat.le_of_ble_eq_true rfl⟩ rfl (Nat.le_of_ble_eq_true rfl) hl.1 dX7_porter_44 ⟨Nat.zero_le _, Nat.zero_le _⟩ (fun H locs hW => ?_)
      have hW : Wd D A s.heap (wMo cs a σ_3 Λ) H locs := hW
      refine lv_iload_n S.1 S.2.1 dX7_porter_47 rfl (lv_at hl 1 rfl) ?_
      refine lv_icmp_gt (tgt := 53) S.1 S.2.1 dX7_porter_48 (by decide) (fun c_7 => ?_) (fun c_7 => ?_)
      · have h := ite_t c_7 h
        obtain ⟨x2_8, ex2_8, h⟩ := nm_some h
        refine lv_iinc (v := x2_8) (lv' := [(2, .int x2_8), (0, .ref (a 0)), (1, .int v1)]) S.1 S.2.1 dX7_porter_53 hl (k := 2) rfl (by rw [ex2_8]; rfl) (by decide) rfl (fun ls hl => ?_)
        refine lv_goto (tgt := 17) S.1 S.2.1 dX7_porter_56 (by decide) ?_
        exact ih v1 x2_8 σ_3 _ _ _ h hW (lv_sub hl [1, 2, 0] rfl)
      · have h := ite_f c_7 h
        refine lv_iload_n S.1 S.2.1 dX7_porter_51 rfl (lv_at hl 2 rfl) ?_
        obtain ⟨rfl, rfl⟩ := pr2 h
        exact hQ _ _ _ _ dX7_porter_52 rfl hW
set_option maxHeartbeats 4000000 in
set_option maxRecDepth 100000 in
theorem cMo_porter (l : Launch) (D : va_G) (cs : Nat → ClassId) (a : Nat → Nat) (σ : St) (Λ : Nat → Int64) (p0 : Int32) (N : Nat) {r : Int32} {σ' : St} (h : fMo_porter N p0 σ = some (r, σ')) : Ki l D cs none yX7_porter cX7_porter 3 (some .int) 6 151 (wMo cs a σ Λ) [.ref (a 0), .int p0] r (wMo cs a σ' Λ) := by
  refine Ki_of (by decide +kernel) (Nat.le_of_ble_eq_true rfl) (fun p e s m below meth c A S hK hA hZ Q hQ ls hl hW => ?_)
  have hl : lv_has ls 3 [(0, .ref (a 0)), (1, .int p0)] := hl
  unfold fMo_porter at h
  refine lv_iload_n S.1 S.2.1 dX7_porter_0 rfl (lv_at hl 1 rfl) ?_
  refine lv_i2l S.1 S.2.1 dX7_porter_1 rfl ?_
  refine lv_lconst (v := 0) S.1 S.2.1 dX7_porter_2 (by decide) ?_
  refine lv_ldc2 (v := 8) S.1 S.2.1 S.2.2.2.1 (S.2.2.2.2 _ q775) dX7_porter_3 ?_
  obtain ⟨r_9, hc_10, h⟩ := cl1_some h
  refine kS_i (As := [.long (p0.toInt64), .long (0 : Int64), .long (8 : Int64)]) (rest := []) S hK hA (z := none) trivial [] (wMo cs a σ Λ) hW (cMo_in l D cs (p0.toInt64) (0 : Int64) (8 : Int64) N hc_10) lk_X7_80 q777 ⟨Nat.le_of_ble_eq_true rfl, Nat.le_of_ble_eq_true rfl⟩ rfl (Nat.le_of_ble_eq_true rfl) hl.1 dX7_porter_6 ⟨Nat.zero_le _, Nat.zero_le _⟩ (fun H locs hW => ?_)
  have hW : Wd D A s.heap (wMo cs a σ Λ) H locs := hW
  refine lv_if_ne (tgt := 14) S.1 S.2.1 dX7_porter_9 (by decide) (fun c_11 => ?_) (fun c_11 => ?_)
  · have h := ite_f c_11 h
    refine lv_bipush (v := 99) S.1 S.2.1 dX7_porter_14 (by decide) ?_
    refine lv_istore_n (lv' := [(2, .int (99 : Int32)), (0, .ref (a 0)), (1, .int p0)]) S.1 S.2.1 dX7_porter_16 rfl hl (by decide) rfl (fun ls hl => ?_)
    exact wMo_porter_17 S hK hA hQ N p0 (99 : Int32) σ _ _ _ h hW (lv_sub hl [1, 2, 0] rfl)
  · have h := ite_t c_11 h
    refine lv_iconst (v := -1) S.1 S.2.1 dX7_porter_12 (by decide) ?_
    obtain ⟨rfl, rfl⟩ := pr2 h
    exact hQ _ _ _ _ dX7_porter_13 rfl hW
set_option maxHeartbeats 4000000 in
set_option maxRecDepth 100000 in
theorem wMo_card_17 {p : Program} {l : Launch} {e : Env} {s : State} {m : MethodId} {args : Array Value} {below : List Frame} {meth : Method} {c : Code} {A : Nat → Prop} {Q : State → Prop} {D : va_G} {cs : Nat → ClassId} {a : Nat → Nat} {Λ : Nat → Int64} {r : Int32} {σ' : St} {N : Nat} (S : Fx p m c cX7_card 3 s args RX7) (hK : va_K D vwCl (tyL cs) s) (hA : ∀ x, s.heap.size ≤ x → A x) (hQ : ∀ (H : Heap) (locs : List Loc) (pc : Nat) (ls : Array Slot), decode cX7_card pc = .ok (.ireturn, 1) → narrow .int (.int r) = .int r → Wd D A s.heap (wMo cs a σ' Λ) H locs → W p l e { frames := 6, cells := 0, slots := 0, locals := 151 } s m args below meth c H locs 0 0 Q (F0 m pc ls [.int r])) : ∀ (n_17 : Nat) (v1 : Int32) (v2 : Int32) (σ : St) (H : Heap) (locs : List Loc) (ls : Array Slot), fMo_card_17 N n_17 v1 v2 σ = some (r, σ') → Wd D A s.heap (wMo cs a σ Λ) H locs → lv_has ls 3 [(0, .ref (a 0)), (1, .int v1), (2, .int v2)] → W p l e { frames := 6, cells := 0, slots := 0, locals := 151 } s m args below meth c H locs 0 0 Q (F0 m 17 ls []) := by
  intro n_17
  induction n_17 with
  | zero =>
    intro v1 v2 σ H locs ls h
    cases h
  | succ n_17 ih =>
    intro v1 v2 σ H locs ls h hW hl
    unfold fMo_card_17 at h
    refine lv_iload_n S.1 S.2.1 dX7_card_17 rfl (lv_at hl 2 rfl) ?_
    refine lv_if_le (tgt := 59) S.1 S.2.1 dX7_card_18 (by decide) (fun c_1 => ?_) (fun c_1 => ?_)
    · have h := ite_t c_1 h
      refine lv_bipush (v := -4) S.1 S.2.1 dX7_card_59 (by decide) ?_
      obtain ⟨rfl, rfl⟩ := pr2 h
      exact hQ _ _ _ _ dX7_card_61 rfl hW
    · have h := ite_f c_1 h
      refine lv_aload_n S.1 S.2.1 dX7_card_21 rfl (lv_at hl 0 rfl) ?_
      refine lv_iconst (v := 2) S.1 S.2.1 dX7_card_22 (by decide) ?_
      refine lv_aload_n S.1 S.2.1 dX7_card_23 rfl (lv_at hl 0 rfl) ?_
      refine gMo_holders S hK hW dX7_card_24 ?_
      refine lv_sipush (v := 399) S.1 S.2.1 dX7_card_27 (by decide) ?_
      refine lv_iload_n S.1 S.2.1 dX7_card_30 rfl (lv_at hl 2 rfl) ?_
      refine lv_aload_n S.1 S.2.1 dX7_card_31 rfl (lv_at hl 0 rfl) ?_
      refine gMo_told S hK hW dX7_card_32 ?_
      refine lv_iconst (v := 1) S.1 S.2.1 dX7_card_35 (by decide) ?_
      obtain ⟨hi_2, h⟩ := gI_some h
      refine lMo_told S hK hW hi_2 dX7_card_36 ?_
      obtain ⟨σ_3, hc_4, h⟩ := cl1_some h
      have hW := kw_same hW
      refine kV_v (As := [.int (2 : Int32), .int (σ 0 8), .int (399 : Int32), .int v2, .int (σ 8 (1 : Int32).toNatClampNeg)]) (rest := []) S hK hA (z := none) trivial [] [] hW (cMo_goes l D cs a σ Λ (2 : Int32) (σ 0 8) (399 : Int32) v2 (σ 8 (1 : Int32).toNatClampNeg) N hc_4) (ci := 6) rfl rfl lk_X7_180 q849 q27 ⟨Nat.le_of_ble_eq_true rfl, Nat.le_of_ble_eq_true rfl⟩ rfl (Nat.le_of_ble_eq_true rfl) hl.1 dX7_card_37 ⟨Nat.zero_le _, Nat.zero_le _⟩ (fun H locs hW => ?_)
      have hW : Wd D A s.heap (wMo cs a σ_3 Λ) H locs := kw_back hW
      refine lv_aload_n S.1 S.2.1 dX7_card_40 rfl (lv_at hl 0 rfl) ?_
      refine gMo_shut S hK hW dX7_card_41 ?_
      obtain ⟨r_5, hc_6, h⟩ := cl1_some h
      refine kS_i (As := [.int (σ_3 0 22)]) (rest := []) S hK hA (z := none) trivial [] (wMo cs a σ_3 Λ) hW (cMo_many l D cs (σ_3 0 22) N hc_6) lk_X7_195 q896 ⟨Nat.le_of_ble_eq_true rfl, Nat.le_of_ble_eq_true rfl⟩ rfl (Nat.le_of_ble_eq_true rfl) hl.1 dX7_card_44 ⟨Nat.zero_le _, Nat.zero_le _⟩ (fun H locs hW => ?_)
      have hW : Wd D A s.heap (wMo cs a σ_3 Λ) H locs := hW
      refine lv_iload_n S.1 S.2.1 dX7_card_47 rfl (lv_at hl 1 rfl) ?_
      refine lv_icmp_gt (tgt := 53) S.1 S.2.1 dX7_card_48 (by decide) (fun c_7 => ?_) (fun c_7 => ?_)
      · have h := ite_t c_7 h
        obtain ⟨x2_8, ex2_8, h⟩ := nm_some h
        refine lv_iinc (v := x2_8) (lv' := [(2, .int x2_8), (0, .ref (a 0)), (1, .int v1)]) S.1 S.2.1 dX7_card_53 hl (k := 2) rfl (by rw [ex2_8]; rfl) (by decide) rfl (fun ls hl => ?_)
        refine lv_goto (tgt := 17) S.1 S.2.1 dX7_card_56 (by decide) ?_
        exact ih v1 x2_8 σ_3 _ _ _ h hW (lv_sub hl [1, 2, 0] rfl)
      · have h := ite_f c_7 h
        refine lv_iload_n S.1 S.2.1 dX7_card_51 rfl (lv_at hl 2 rfl) ?_
        obtain ⟨rfl, rfl⟩ := pr2 h
        exact hQ _ _ _ _ dX7_card_52 rfl hW
set_option maxHeartbeats 4000000 in
set_option maxRecDepth 100000 in
theorem cMo_card (l : Launch) (D : va_G) (cs : Nat → ClassId) (a : Nat → Nat) (σ : St) (Λ : Nat → Int64) (p0 : Int32) (N : Nat) {r : Int32} {σ' : St} (h : fMo_card N p0 σ = some (r, σ')) : Ki l D cs none yX7_card cX7_card 3 (some .int) 6 151 (wMo cs a σ Λ) [.ref (a 0), .int p0] r (wMo cs a σ' Λ) := by
  refine Ki_of (by decide +kernel) (Nat.le_of_ble_eq_true rfl) (fun p e s m below meth c A S hK hA hZ Q hQ ls hl hW => ?_)
  have hl : lv_has ls 3 [(0, .ref (a 0)), (1, .int p0)] := hl
  unfold fMo_card at h
  refine lv_iload_n S.1 S.2.1 dX7_card_0 rfl (lv_at hl 1 rfl) ?_
  refine lv_i2l S.1 S.2.1 dX7_card_1 rfl ?_
  refine lv_lconst (v := 0) S.1 S.2.1 dX7_card_2 (by decide) ?_
  refine lv_ldc2 (v := 8) S.1 S.2.1 S.2.2.2.1 (S.2.2.2.2 _ q775) dX7_card_3 ?_
  obtain ⟨r_9, hc_10, h⟩ := cl1_some h
  refine kS_i (As := [.long (p0.toInt64), .long (0 : Int64), .long (8 : Int64)]) (rest := []) S hK hA (z := none) trivial [] (wMo cs a σ Λ) hW (cMo_in l D cs (p0.toInt64) (0 : Int64) (8 : Int64) N hc_10) lk_X7_80 q777 ⟨Nat.le_of_ble_eq_true rfl, Nat.le_of_ble_eq_true rfl⟩ rfl (Nat.le_of_ble_eq_true rfl) hl.1 dX7_card_6 ⟨Nat.zero_le _, Nat.zero_le _⟩ (fun H locs hW => ?_)
  have hW : Wd D A s.heap (wMo cs a σ Λ) H locs := hW
  refine lv_if_ne (tgt := 14) S.1 S.2.1 dX7_card_9 (by decide) (fun c_11 => ?_) (fun c_11 => ?_)
  · have h := ite_f c_11 h
    refine lv_bipush (v := 99) S.1 S.2.1 dX7_card_14 (by decide) ?_
    refine lv_istore_n (lv' := [(2, .int (99 : Int32)), (0, .ref (a 0)), (1, .int p0)]) S.1 S.2.1 dX7_card_16 rfl hl (by decide) rfl (fun ls hl => ?_)
    exact wMo_card_17 S hK hA hQ N p0 (99 : Int32) σ _ _ _ h hW (lv_sub hl [1, 2, 0] rfl)
  · have h := ite_t c_11 h
    refine lv_iconst (v := -1) S.1 S.2.1 dX7_card_12 (by decide) ?_
    obtain ⟨rfl, rfl⟩ := pr2 h
    exact hQ _ _ _ _ dX7_card_13 rfl hW
set_option maxHeartbeats 4000000 in
set_option maxRecDepth 100000 in
theorem wMo_power_5 {p : Program} {l : Launch} {e : Env} {s : State} {m : MethodId} {args : Array Value} {below : List Frame} {meth : Method} {c : Code} {A : Nat → Prop} {Q : State → Prop} {D : va_G} {cs : Nat → ClassId} {r : Int64} {N : Nat} (S : Fx p m c cX7_power 5 s args RX7) (hK : va_K D vwCl (tyL cs) s) (hA : ∀ x, s.heap.size ≤ x → A x) (hQ : ∀ (H : Heap) (locs : List Loc) (pc : Nat) (ls : Array Slot), decode cX7_power pc = .ok (.lreturn, 1) → Wd D A s.heap [] H locs → W p l e { frames := 0, cells := 0, slots := 0, locals := 0 } s m args below meth c H locs 0 0 Q (F0 m pc ls [.long r])) : ∀ (n_5 : Nat) (v0 : Int32) (v1 : Int32) (v2 : Int64) (v4 : Int32) (H : Heap) (locs : List Loc) (ls : Array Slot), fMo_power_5 N n_5 v0 v1 v2 v4 = some r → Wd D A s.heap [] H locs → lv_has ls 5 [(0, .int v0), (1, .int v1), (2, .long v2), (4, .int v4)] → W p l e { frames := 0, cells := 0, slots := 0, locals := 0 } s m args below meth c H locs 0 0 Q (F0 m 5 ls []) := by
  intro n_5
  induction n_5 with
  | zero =>
    intro v0 v1 v2 v4 H locs ls h
    cases h
  | succ n_5 ih =>
    intro v0 v1 v2 v4 H locs ls h hW hl
    unfold fMo_power_5 at h
    refine lv_iload S.1 S.2.1 dX7_power_5 (lv_at hl 3 rfl) ?_
    refine lv_iload_n S.1 S.2.1 dX7_power_7 rfl (lv_at hl 1 rfl) ?_
    refine lv_icmp_ge (tgt := 22) S.1 S.2.1 dX7_power_8 (by decide) (fun c_1 => ?_) (fun c_1 => ?_)
    · have h := ite_t c_1 h
      refine lv_lload_n S.1 S.2.1 dX7_power_22 rfl (lv_at hl 2 rfl) ?_
      obtain rfl := pr1 h
      exact hQ _ _ _ _ dX7_power_23 hW
    · have h := ite_f c_1 h
      refine lv_lload_n S.1 S.2.1 dX7_power_11 rfl (lv_at hl 2 rfl) ?_
      refine lv_iload_n S.1 S.2.1 dX7_power_12 rfl (lv_at hl 0 rfl) ?_
      refine lv_i2l S.1 S.2.1 dX7_power_13 rfl ?_
      refine lv_lmul S.1 S.2.1 dX7_power_14 ?_
      refine lv_topl (fun x2_2 ex2_2 => ?_)
      have h := nm_to ex2_2 h
      refine lv_lstore_n (lv' := [(2, .long x2_2), (0, .int v0), (1, .int v1), (4, .int v4)]) S.1 S.2.1 dX7_power_15 rfl hl (by decide) rfl (fun ls hl => ?_)
      obtain ⟨x4_3, ex4_3, h⟩ := nm_some h
      refine lv_iinc (v := x4_3) (lv' := [(4, .int x4_3), (2, .long x2_2), (0, .int v0), (1, .int v1)]) S.1 S.2.1 dX7_power_16 hl (k := 3) rfl (by rw [ex4_3]; rfl) (by decide) rfl (fun ls hl => ?_)
      refine lv_goto (tgt := 5) S.1 S.2.1 dX7_power_19 (by decide) ?_
      exact ih v0 v1 x2_2 x4_3 _ _ _ h hW (lv_sub hl [2, 3, 1, 0] rfl)
set_option maxHeartbeats 4000000 in
set_option maxRecDepth 100000 in
theorem cMo_power (l : Launch) (D : va_G) (cs : Nat → ClassId) (p0 : Int32) (p1 : Int32) (N : Nat) {r : Int64} (h : fMo_power N p0 p1 = some r) : Kl l D cs none yX7_power cX7_power 5 (some .long) 0 0 [] [.int p0, .int p1] r [] := by
  refine Kl_of (by decide +kernel) (Nat.le_of_ble_eq_true rfl) (fun p e s m below meth c A S hK hA hZ Q hQ ls hl hW => ?_)
  have hl : lv_has ls 5 [(0, .int p0), (1, .int p1)] := hl
  unfold fMo_power at h
  refine lv_lconst (v := 1) S.1 S.2.1 dX7_power_0 (by decide) ?_
  refine lv_lstore_n (lv' := [(2, .long (1 : Int64)), (0, .int p0), (1, .int p1)]) S.1 S.2.1 dX7_power_1 rfl hl (by decide) rfl (fun ls hl => ?_)
  refine lv_iconst (v := 0) S.1 S.2.1 dX7_power_2 (by decide) ?_
  refine lv_istore (lv' := [(4, .int (0 : Int32)), (2, .long (1 : Int64)), (0, .int p0), (1, .int p1)]) S.1 S.2.1 dX7_power_3 hl (by decide) rfl (fun ls hl => ?_)
  exact wMo_power_5 S hK hA hQ N p0 p1 (1 : Int64) (0 : Int32) _ _ _ h hW (lv_sub hl [2, 3, 1, 0] rfl)
set_option maxHeartbeats 4000000 in
set_option maxRecDepth 100000 in
theorem wMo_come_46 {p : Program} {l : Launch} {e : Env} {s : State} {m : MethodId} {args : Array Value} {below : List Frame} {meth : Method} {c : Code} {A : Nat → Prop} {Q : State → Prop} {D : va_G} {cs : Nat → ClassId} {r : Int64} {N : Nat} (S : Fx p m c cX7_come 8 s args RX7) (hK : va_K D vwCl (tyL cs) s) (hA : ∀ x, s.heap.size ≤ x → A x) (hQ : ∀ (H : Heap) (locs : List Loc) (pc : Nat) (ls : Array Slot), decode cX7_come pc = .ok (.lreturn, 1) → Wd D A s.heap [] H locs → W p l e { frames := 1, cells := 0, slots := 0, locals := 24 } s m args below meth c H locs 0 0 Q (F0 m pc ls [.long r])) {k_8 : Int32 → Int32 → Int32 → Int64 → Int64 → Int32 → Option (Int64)} (hk_8 : ∀ (v0 : Int32) (v1 : Int32) (v2 : Int32) (v3 : Int64) (v5 : Int64) (v7 : Int32) (H : Heap) (locs : List Loc) (ls : Array Slot), k_8 v0 v1 v2 v3 v5 v7 = some r → Wd D A s.heap [] H locs → lv_has ls 8 [(0, .int v0), (1, .int v1), (2, .int v2), (3, .long v3), (5, .long v5), (7, .int v7)] → W p l e { frames := 1, cells := 0, slots := 0, locals := 24 } s m args below meth c H locs 0 0 Q (F0 m 8 ls [])) : ∀ (v0 : Int32) (v1 : Int32) (v2 : Int32) (v5 : Int64) (v7 : Int32) (k0 : Int64) (k1 : Int64) (H : Heap) (locs : List Loc) (ls : Array Slot), fMo_come_46 k_8 N v0 v1 v2 v5 v7 k0 k1 = some r → Wd D A s.heap [] H locs → lv_has ls 8 [(0, .int v0), (1, .int v1), (2, .int v2), (5, .long v5), (7, .int v7)] → W p l e { frames := 1, cells := 0, slots := 0, locals := 24 } s m args below meth c H locs 0 0 Q (F0 m 46 ls [.long k1, .long k0]) := by
  intro v0 v1 v2 v5 v7 k0 k1 H locs ls h hW hl
  unfold fMo_come_46 at h
  refine lv_ladd S.1 S.2.1 dX7_come_46 ?_
  refine lv_topl (fun x3_1 ex3_1 => ?_)
  have h := nm_to ex3_1 h
  refine lv_lstore_n (lv' := [(3, .long x3_1), (0, .int v0), (1, .int v1), (2, .int v2), (5, .long v5), (7, .int v7)]) S.1 S.2.1 dX7_come_47 rfl hl (by decide) rfl (fun ls hl => ?_)
  refine lv_lload S.1 S.2.1 dX7_come_48 (lv_at hl 4 rfl) ?_
  refine lv_iload_n S.1 S.2.1 dX7_come_50 rfl (lv_at hl 1 rfl) ?_
  refine lv_iload S.1 S.2.1 dX7_come_51 (lv_at hl 5 rfl) ?_
  refine lv_isub S.1 S.2.1 dX7_come_53 ?_
  refine lv_i2l S.1 S.2.1 dX7_come_54 rfl ?_
  refine lv_lmul S.1 S.2.1 dX7_come_55 ?_
  refine lv_iload S.1 S.2.1 dX7_come_56 (lv_at hl 5 rfl) ?_
  refine lv_iconst (v := 1) S.1 S.2.1 dX7_come_58 (by decide) ?_
  refine lv_iadd S.1 S.2.1 dX7_come_59 ?_
  refine lv_i2l S.1 S.2.1 dX7_come_60 rfl ?_
  obtain ⟨hz_2, h⟩ := gZL_some h
  refine lv_ldiv S.1 S.2.1 dX7_come_61 hz_2 ?_
  refine lv_topl (fun x5_3 ex5_3 => ?_)
  have h := nm_to ex5_3 h
  refine lv_lstore (lv' := [(5, .long x5_3), (3, .long x3_1), (0, .int v0), (1, .int v1), (2, .int v2), (7, .int v7)]) S.1 S.2.1 dX7_come_62 hl (by decide) rfl (fun ls hl => ?_)
  obtain ⟨x7_4, ex7_4, h⟩ := nm_some h
  refine lv_iinc (v := x7_4) (lv' := [(7, .int x7_4), (5, .long x5_3), (3, .long x3_1), (0, .int v0), (1, .int v1), (2, .int v2)]) S.1 S.2.1 dX7_come_64 hl (k := 5) rfl (by rw [ex7_4]; rfl) (by decide) rfl (fun ls hl => ?_)
  refine lv_goto (tgt := 8) S.1 S.2.1 dX7_come_67 (by decide) ?_
  exact hk_8 v0 v1 v2 x3_1 x5_3 x7_4 _ _ _ h hW (lv_sub hl [3, 4, 5, 2, 1, 0] rfl)
set_option maxHeartbeats 4000000 in
set_option maxRecDepth 100000 in
theorem wMo_come_8 {p : Program} {l : Launch} {e : Env} {s : State} {m : MethodId} {args : Array Value} {below : List Frame} {meth : Method} {c : Code} {A : Nat → Prop} {Q : State → Prop} {D : va_G} {cs : Nat → ClassId} {r : Int64} {N : Nat} (S : Fx p m c cX7_come 8 s args RX7) (hK : va_K D vwCl (tyL cs) s) (hA : ∀ x, s.heap.size ≤ x → A x) (hQ : ∀ (H : Heap) (locs : List Loc) (pc : Nat) (ls : Array Slot), decode cX7_come pc = .ok (.lreturn, 1) → Wd D A s.heap [] H locs → W p l e { frames := 1, cells := 0, slots := 0, locals := 24 } s m args below meth c H locs 0 0 Q (F0 m pc ls [.long r])) : ∀ (n_8 : Nat) (v0 : Int32) (v1 : Int32) (v2 : Int32) (v3 : Int64) (v5 : Int64) (v7 : Int32) (H : Heap) (locs : List Loc) (ls : Array Slot), fMo_come_8 N n_8 v0 v1 v2 v3 v5 v7 = some r → Wd D A s.heap [] H locs → lv_has ls 8 [(0, .int v0), (1, .int v1), (2, .int v2), (3, .long v3), (5, .long v5), (7, .int v7)] → W p l e { frames := 1, cells := 0, slots := 0, locals := 24 } s m args below meth c H locs 0 0 Q (F0 m 8 ls []) := by
  intro n_8
  induction n_8 with
  | zero =>
    intro v0 v1 v2 v3 v5 v7 H locs ls h
    cases h
  | succ n_8 ih =>
    intro v0 v1 v2 v3 v5 v7 H locs ls h hW hl
    unfold fMo_come_8 at h
    refine lv_iload S.1 S.2.1 dX7_come_8 (lv_at hl 5 rfl) ?_
    refine lv_iload_n S.1 S.2.1 dX7_come_10 rfl (lv_at hl 0 rfl) ?_
    refine lv_icmp_gt (tgt := 70) S.1 S.2.1 dX7_come_11 (by decide) (fun c_5 => ?_) (fun c_5 => ?_)
    · have h := ite_t c_5 h
      refine lv_lload_n S.1 S.2.1 dX7_come_70 rfl (lv_at hl 3 rfl) ?_
      obtain rfl := pr1 h
      exact hQ _ _ _ _ dX7_come_71 hW
    · have h := ite_f c_5 h
      refine lv_lload_n S.1 S.2.1 dX7_come_14 rfl (lv_at hl 3 rfl) ?_
      refine lv_iload S.1 S.2.1 dX7_come_15 (lv_at hl 5 rfl) ?_
      refine lv_iload_n S.1 S.2.1 dX7_come_17 rfl (lv_at hl 1 rfl) ?_
      refine lv_icmp_gt (tgt := 45) S.1 S.2.1 dX7_come_18 (by decide) (fun c_6 => ?_) (fun c_6 => ?_)
      · have h := ite_t c_6 h
        refine lv_lconst (v := 0) S.1 S.2.1 dX7_come_45 (by decide) ?_
        exact wMo_come_46 S hK hA hQ ih v0 v1 v2 v5 v7 v3 (0 : Int64) _ _ _ h hW (lv_sub hl [0, 1, 2, 4, 5] rfl)
      · have h := ite_f c_6 h
        refine lv_lload S.1 S.2.1 dX7_come_21 (lv_at hl 4 rfl) ?_
        refine lv_iload_n S.1 S.2.1 dX7_come_23 rfl (lv_at hl 2 rfl) ?_
        refine lv_iload S.1 S.2.1 dX7_come_24 (lv_at hl 5 rfl) ?_
        obtain ⟨r_7, hc_8, h⟩ := cl1_some h
        refine kS_l (As := [.int v2, .int v7]) (rest := [.long v5, .long v3]) S hK hA (z := none) trivial [] [] hW (cMo_power l D cs v2 v7 N hc_8) lk_X7_207 q948 ⟨Nat.le_of_ble_eq_true rfl, Nat.le_of_ble_eq_true rfl⟩ rfl (Nat.le_of_ble_eq_true rfl) hl.1 dX7_come_26 ⟨Nat.zero_le _, Nat.zero_le _⟩ (fun H locs hW => ?_)
        have hW : Wd D A s.heap [] H locs := hW
        refine lv_lmul S.1 S.2.1 dX7_come_29 ?_
        refine lv_bipush (v := 10) S.1 S.2.1 dX7_come_30 (by decide) ?_
        refine lv_iload_n S.1 S.2.1 dX7_come_32 rfl (lv_at hl 2 rfl) ?_
        refine lv_isub S.1 S.2.1 dX7_come_33 ?_
        refine lv_iload_n S.1 S.2.1 dX7_come_34 rfl (lv_at hl 0 rfl) ?_
        refine lv_iload S.1 S.2.1 dX7_come_35 (lv_at hl 5 rfl) ?_
        refine lv_isub S.1 S.2.1 dX7_come_37 ?_
        obtain ⟨r_9, hc_10, h⟩ := cl1_some h
        refine kS_l (As := [.int ((10 : Int32) - v2), .int (v0 - v7)]) (rest := [.long (v5 * r_7), .long v3]) S hK hA (z := none) trivial [] [] hW (cMo_power l D cs ((10 : Int32) - v2) (v0 - v7) N hc_10) lk_X7_207 q948 ⟨Nat.le_of_ble_eq_true rfl, Nat.le_of_ble_eq_true rfl⟩ rfl (Nat.le_of_ble_eq_true rfl) hl.1 dX7_come_38 ⟨Nat.zero_le _, Nat.zero_le _⟩ (fun H locs hW => ?_)
        have hW : Wd D A s.heap [] H locs := hW
        refine lv_lmul S.1 S.2.1 dX7_come_41 ?_
        refine lv_goto (tgt := 46) S.1 S.2.1 dX7_come_42 (by decide) ?_
        exact wMo_come_46 S hK hA hQ ih v0 v1 v2 v5 v7 v3 ((v5 * r_7) * r_9) _ _ _ h hW (lv_sub hl [0, 1, 2, 4, 5] rfl)
set_option maxHeartbeats 4000000 in
set_option maxRecDepth 100000 in
theorem cMo_come (l : Launch) (D : va_G) (cs : Nat → ClassId) (p0 : Int32) (p1 : Int32) (p2 : Int32) (N : Nat) {r : Int64} (h : fMo_come N p0 p1 p2 = some r) : Kl l D cs none yX7_come cX7_come 8 (some .long) 1 24 [] [.int p0, .int p1, .int p2] r [] := by
  refine Kl_of (by decide +kernel) (Nat.le_of_ble_eq_true rfl) (fun p e s m below meth c A S hK hA hZ Q hQ ls hl hW => ?_)
  have hl : lv_has ls 8 [(0, .int p0), (1, .int p1), (2, .int p2)] := hl
  unfold fMo_come at h
  refine lv_lconst (v := 0) S.1 S.2.1 dX7_come_0 (by decide) ?_
  refine lv_lstore_n (lv' := [(3, .long (0 : Int64)), (0, .int p0), (1, .int p1), (2, .int p2)]) S.1 S.2.1 dX7_come_1 rfl hl (by decide) rfl (fun ls hl => ?_)
  refine lv_lconst (v := 1) S.1 S.2.1 dX7_come_2 (by decide) ?_
  refine lv_lstore (lv' := [(5, .long (1 : Int64)), (3, .long (0 : Int64)), (0, .int p0), (1, .int p1), (2, .int p2)]) S.1 S.2.1 dX7_come_3 hl (by decide) rfl (fun ls hl => ?_)
  refine lv_iconst (v := 0) S.1 S.2.1 dX7_come_5 (by decide) ?_
  refine lv_istore (lv' := [(7, .int (0 : Int32)), (5, .long (1 : Int64)), (3, .long (0 : Int64)), (0, .int p0), (1, .int p1), (2, .int p2)]) S.1 S.2.1 dX7_come_6 hl (by decide) rfl (fun ls hl => ?_)
  exact wMo_come_8 S hK hA hQ N p0 p1 p2 (0 : Int64) (1 : Int64) (0 : Int32) _ _ _ h hW (lv_sub hl [3, 4, 5, 2, 1, 0] rfl)
set_option maxHeartbeats 4000000 in
set_option maxRecDepth 100000 in
theorem wMo_lowest_6 {p : Program} {l : Launch} {e : Env} {s : State} {m : MethodId} {args : Array Value} {below : List Frame} {meth : Method} {c : Code} {A : Nat → Prop} {Q : State → Prop} {D : va_G} {cs : Nat → ClassId} {a : Nat → Nat} {σ : St} {Λ' : Nat → Int64} {N : Nat} (S : Fx p m c cX7_lowest 11 s args RX7) (hK : va_K D vwCl (tyL cs) s) (hA : ∀ x, s.heap.size ≤ x → A x) (hQ : ∀ (H : Heap) (locs : List Loc) (pc : Nat) (ls : Array Slot), decode cX7_lowest pc = .ok (.return_, 1) → Wd D A s.heap (wMo cs a σ Λ') H locs → W p l e { frames := 0, cells := 0, slots := 0, locals := 0 } s m args below meth c H locs 0 0 Q (F0 m pc ls [])) : ∀ (n_6 : Nat) (v1 : Int64) (v3 : Int64) (v5 : Int64) (v7 : Int64) (Λ : Nat → Int64) (H : Heap) (locs : List Loc) (ls : Array Slot), fMo_lowest_6 N n_6 v1 v3 v5 v7 Λ = some Λ' → Wd D A s.heap (wMo cs a σ Λ) H locs → lv_has ls 11 [(0, .ref (a 0)), (1, .long v1), (3, .long v3), (5, .long v5), (7, .long v7)] → W p l e { frames := 0, cells := 0, slots := 0, locals := 0 } s m args below meth c H locs 0 0 Q (F0 m 6 ls []) := by
  intro n_6
  induction n_6 with
  | zero =>
    intro v1 v3 v5 v7 Λ H locs ls h
    cases h
  | succ n_6 ih =>
    intro v1 v3 v5 v7 Λ H locs ls h hW hl
    unfold fMo_lowest_6 at h
    refine lv_lload S.1 S.2.1 dX7_lowest_6 (lv_at hl 4 rfl) ?_
    refine lv_lconst (v := 0) S.1 S.2.1 dX7_lowest_8 (by decide) ?_
    refine W.lcmp S.1 S.2.1 dX7_lowest_9 ?_
    refine lv_if_eq (tgt := 31) S.1 S.2.1 dX7_lowest_10 (by decide) (fun c_1 => ?_) (fun c_1 => ?_)
    · have h := ite_t c_1 h
      refine lv_aload_n S.1 S.2.1 dX7_lowest_31 rfl (lv_at hl 0 rfl) ?_
      refine lv_lload_n S.1 S.2.1 dX7_lowest_32 rfl (lv_at hl 1 rfl) ?_
      refine lv_lload S.1 S.2.1 dX7_lowest_33 (lv_at hl 3 rfl) ?_
      obtain ⟨hz_2, h⟩ := gZL_some h
      refine lv_ldiv S.1 S.2.1 dX7_lowest_35 hz_2 ?_
      refine pMo_above S hK hW dX7_lowest_36 (fun H locs Λ_3 eΛ_3 hW => ?_)
      have h := nm_to eΛ_3 h
      refine lv_aload_n S.1 S.2.1 dX7_lowest_39 rfl (lv_at hl 0 rfl) ?_
      refine lv_lload_n S.1 S.2.1 dX7_lowest_40 rfl (lv_at hl 2 rfl) ?_
      refine lv_lload S.1 S.2.1 dX7_lowest_41 (lv_at hl 3 rfl) ?_
      obtain ⟨hz_4, h⟩ := gZL_some h
      refine lv_ldiv S.1 S.2.1 dX7_lowest_43 hz_4 ?_
      refine pMo_below S hK hW dX7_lowest_44 (fun H locs Λ_5 eΛ_5 hW => ?_)
      have h := nm_to eΛ_5 h
      obtain rfl := pr1 h
      exact hQ _ _ _ _ dX7_lowest_47 hW
    · have h := ite_f c_1 h
      refine lv_lload S.1 S.2.1 dX7_lowest_13 (lv_at hl 3 rfl) ?_
      refine lv_lload S.1 S.2.1 dX7_lowest_15 (lv_at hl 4 rfl) ?_
      obtain ⟨hz_6, h⟩ := gZL_some h
      refine lv_lrem S.1 S.2.1 dX7_lowest_17 hz_6 ?_
      refine lv_topl (fun x9_7 ex9_7 => ?_)
      have h := nm_to ex9_7 h
      refine lv_lstore (lv' := [(9, .long x9_7), (0, .ref (a 0)), (1, .long v1), (3, .long v3), (5, .long v5), (7, .long v7)]) S.1 S.2.1 dX7_lowest_18 hl (by decide) rfl (fun ls hl => ?_)
      refine lv_lload S.1 S.2.1 dX7_lowest_20 (lv_at hl 5 rfl) ?_
      refine lv_lstore (lv' := [(5, .long v7), (9, .long x9_7), (0, .ref (a 0)), (1, .long v1), (3, .long v3), (7, .long v7)]) S.1 S.2.1 dX7_lowest_22 hl (by decide) rfl (fun ls hl => ?_)
      refine lv_lload S.1 S.2.1 dX7_lowest_24 (lv_at hl 1 rfl) ?_
      refine lv_lstore (lv' := [(7, .long x9_7), (5, .long v7), (9, .long x9_7), (0, .ref (a 0)), (1, .long v1), (3, .long v3)]) S.1 S.2.1 dX7_lowest_26 hl (by decide) rfl (fun ls hl => ?_)
      refine lv_goto (tgt := 6) S.1 S.2.1 dX7_lowest_28 (by decide) ?_
      exact ih v1 v3 v7 x9_7 Λ _ _ _ h hW (lv_sub hl [3, 4, 5, 1, 0] rfl)
set_option maxHeartbeats 4000000 in
set_option maxRecDepth 100000 in
theorem cMo_lowest (l : Launch) (D : va_G) (cs : Nat → ClassId) (a : Nat → Nat) (σ : St) (Λ : Nat → Int64) (p0 : Int64) (p1 : Int64) (N : Nat) {Λ' : Nat → Int64} (h : fMo_lowest N p0 p1 Λ = some Λ') : Kv l D cs none yX7_lowest cX7_lowest 11 none 0 0 (wMo cs a σ Λ) [.ref (a 0), .long p0, .long p1] (wMo cs a σ Λ') := by
  refine Kv_of (by decide +kernel) (Nat.le_of_ble_eq_true rfl) (fun p e s m below meth c A S hK hA hZ Q hQ ls hl hW => ?_)
  have hl : lv_has ls 11 [(0, .ref (a 0)), (1, .long p0), (3, .long p1)] := hl
  unfold fMo_lowest at h
  refine lv_lload_n S.1 S.2.1 dX7_lowest_0 rfl (lv_at hl 1 rfl) ?_
  refine lv_lstore (lv' := [(5, .long p0), (0, .ref (a 0)), (1, .long p0), (3, .long p1)]) S.1 S.2.1 dX7_lowest_1 hl (by decide) rfl (fun ls hl => ?_)
  refine lv_lload_n S.1 S.2.1 dX7_lowest_3 rfl (lv_at hl 3 rfl) ?_
  refine lv_lstore (lv' := [(7, .long p1), (5, .long p0), (0, .ref (a 0)), (1, .long p0), (3, .long p1)]) S.1 S.2.1 dX7_lowest_4 hl (by decide) rfl (fun ls hl => ?_)
  exact wMo_lowest_6 S hK hA hQ N p0 p1 p0 p1 Λ _ _ _ h hW (lv_sub hl [2, 3, 4, 1, 0] rfl)
set_option maxHeartbeats 4000000 in
set_option maxRecDepth 100000 in
theorem wMo_booked_47 {p : Program} {l : Launch} {e : Env} {s : State} {m : MethodId} {args : Array Value} {below : List Frame} {meth : Method} {c : Code} {A : Nat → Prop} {Q : State → Prop} {D : va_G} {cs : Nat → ClassId} {a : Nat → Nat} {σ : St} {r : Int64} {Λ' : Nat → Int64} {N : Nat} (S : Fx p m c cX7_booked 5 s args RX7) (hK : va_K D vwCl (tyL cs) s) (hA : ∀ x, s.heap.size ≤ x → A x) (hQ : ∀ (H : Heap) (locs : List Loc) (pc : Nat) (ls : Array Slot), decode cX7_booked pc = .ok (.lreturn, 1) → Wd D A s.heap (wMo cs a σ Λ') H locs → W p l e { frames := 2, cells := 0, slots := 0, locals := 51 } s m args below meth c H locs 0 0 Q (F0 m pc ls [.long r])) : ∀ (Λ : Nat → Int64) (H : Heap) (locs : List Loc) (ls : Array Slot), fMo_booked_47 N Λ = some (r, Λ') → Wd D A s.heap (wMo cs a σ Λ) H locs → lv_has ls 5 [] → W p l e { frames := 2, cells := 0, slots := 0, locals := 51 } s m args below meth c H locs 0 0 Q (F0 m 47 ls []) := by
  intro Λ H locs ls h hW hl
  unfold fMo_booked_47 at h
  refine lv_ldc2 (v := -1) S.1 S.2.1 S.2.2.2.1 (S.2.2.2.2 _ q943) dX7_booked_47 ?_
  obtain ⟨rfl, rfl⟩ := pr2 h
  exact hQ _ _ _ _ dX7_booked_50 hW
set_option maxHeartbeats 4000000 in
set_option maxRecDepth 100000 in
theorem wMo_booked_83 {p : Program} {l : Launch} {e : Env} {s : State} {m : MethodId} {args : Array Value} {below : List Frame} {meth : Method} {c : Code} {A : Nat → Prop} {Q : State → Prop} {D : va_G} {cs : Nat → ClassId} {a : Nat → Nat} {σ : St} {r : Int64} {Λ' : Nat → Int64} {N : Nat} (S : Fx p m c cX7_booked 5 s args RX7) (hK : va_K D vwCl (tyL cs) s) (hA : ∀ x, s.heap.size ≤ x → A x) (hQ : ∀ (H : Heap) (locs : List Loc) (pc : Nat) (ls : Array Slot), decode cX7_booked pc = .ok (.lreturn, 1) → Wd D A s.heap (wMo cs a σ Λ') H locs → W p l e { frames := 2, cells := 0, slots := 0, locals := 51 } s m args below meth c H locs 0 0 Q (F0 m pc ls [.long r])) : ∀ (k0 : Int64) (Λ : Nat → Int64) (H : Heap) (locs : List Loc) (ls : Array Slot), fMo_booked_83 N k0 Λ = some (r, Λ') → Wd D A s.heap (wMo cs a σ Λ) H locs → lv_has ls 5 [] → W p l e { frames := 2, cells := 0, slots := 0, locals := 51 } s m args below meth c H locs 0 0 Q (F0 m 83 ls [.long k0]) := by
  intro k0 Λ H locs ls h hW hl
  unfold fMo_booked_83 at h
  obtain ⟨rfl, rfl⟩ := pr2 h
  exact hQ _ _ _ _ dX7_booked_83 hW
set_option maxHeartbeats 4000000 in
set_option maxRecDepth 100000 in
theorem cMo_booked (l : Launch) (D : va_G) (cs : Nat → ClassId) (a : Nat → Nat) (σ : St) (Λ : Nat → Int64) (p0 : Int32) (p1 : Int32) (p2 : Int32) (p3 : Int32) (N : Nat) {r : Int64} {Λ' : Nat → Int64} (h : fMo_booked N p0 p1 p2 p3 Λ = some (r, Λ')) : Kl l D cs none yX7_booked cX7_booked 5 (some .long) 2 51 (wMo cs a σ Λ) [.ref (a 0), .int p0, .int p1, .int p2, .int p3] r (wMo cs a σ Λ') := by
  refine Kl_of (by decide +kernel) (Nat.le_of_ble_eq_true rfl) (fun p e s m below meth c A S hK hA hZ Q hQ ls hl hW => ?_)
  have hl : lv_has ls 5 [(0, .ref (a 0)), (1, .int p0), (2, .int p1), (3, .int p2), (4, .int p3)] := hl
  unfold fMo_booked at h
  refine lv_iload_n S.1 S.2.1 dX7_booked_0 rfl (lv_at hl 1 rfl) ?_
  refine lv_i2l S.1 S.2.1 dX7_booked_1 rfl ?_
  refine lv_lconst (v := 1) S.1 S.2.1 dX7_booked_2 (by decide) ?_
  refine lv_ldc2 (v := 14) S.1 S.2.1 S.2.2.2.1 (S.2.2.2.2 _ q941) dX7_booked_3 ?_
  obtain ⟨r_1, hc_2, h⟩ := cl1_some h
  refine kS_i (As := [.long (p0.toInt64), .long (1 : Int64), .long (14 : Int64)]) (rest := []) S hK hA (z := none) trivial [] (wMo cs a σ Λ) hW (cMo_in l D cs (p0.toInt64) (1 : Int64) (14 : Int64) N hc_2) lk_X7_80 q777 ⟨Nat.le_of_ble_eq_true rfl, Nat.le_of_ble_eq_true rfl⟩ rfl (Nat.le_of_ble_eq_true rfl) hl.1 dX7_booked_6 ⟨Nat.zero_le _, Nat.zero_le _⟩ (fun H locs hW => ?_)
  have hW : Wd D A s.heap (wMo cs a σ Λ) H locs := hW
  refine lv_if_eq (tgt := 47) S.1 S.2.1 dX7_booked_9 (by decide) (fun c_3 => ?_) (fun c_3 => ?_)
  · have h := ite_t c_3 h
    exact wMo_booked_47 S hK hA hQ Λ _ _ _ h hW (lv_sub hl [] rfl)
  · have h := ite_f c_3 h
    refine lv_iload_n S.1 S.2.1 dX7_booked_12 rfl (lv_at hl 2 rfl) ?_
    refine lv_i2l S.1 S.2.1 dX7_booked_13 rfl ?_
    refine lv_lconst (v := 1) S.1 S.2.1 dX7_booked_14 (by decide) ?_
    refine lv_ldc2 (v := 14) S.1 S.2.1 S.2.2.2.1 (S.2.2.2.2 _ q941) dX7_booked_15 ?_
    obtain ⟨r_4, hc_5, h⟩ := cl1_some h
    refine kS_i (As := [.long (p1.toInt64), .long (1 : Int64), .long (14 : Int64)]) (rest := []) S hK hA (z := none) trivial [] (wMo cs a σ Λ) hW (cMo_in l D cs (p1.toInt64) (1 : Int64) (14 : Int64) N hc_5) lk_X7_80 q777 ⟨Nat.le_of_ble_eq_true rfl, Nat.le_of_ble_eq_true rfl⟩ rfl (Nat.le_of_ble_eq_true rfl) hl.1 dX7_booked_18 ⟨Nat.zero_le _, Nat.zero_le _⟩ (fun H locs hW => ?_)
    have hW : Wd D A s.heap (wMo cs a σ Λ) H locs := hW
    refine lv_if_eq (tgt := 47) S.1 S.2.1 dX7_booked_21 (by decide) (fun c_6 => ?_) (fun c_6 => ?_)
    · have h := ite_t c_6 h
      exact wMo_booked_47 S hK hA hQ Λ _ _ _ h hW (lv_sub hl [] rfl)
    · have h := ite_f c_6 h
      refine lv_iload_n S.1 S.2.1 dX7_booked_24 rfl (lv_at hl 3 rfl) ?_
      refine lv_i2l S.1 S.2.1 dX7_booked_25 rfl ?_
      refine lv_lconst (v := 0) S.1 S.2.1 dX7_booked_26 (by decide) ?_
      refine lv_ldc2 (v := 10) S.1 S.2.1 S.2.2.2.1 (S.2.2.2.2 _ q942) dX7_booked_27 ?_
      obtain ⟨r_7, hc_8, h⟩ := cl1_some h
      refine kS_i (As := [.long (p2.toInt64), .long (0 : Int64), .long (10 : Int64)]) (rest := []) S hK hA (z := none) trivial [] (wMo cs a σ Λ) hW (cMo_in l D cs (p2.toInt64) (0 : Int64) (10 : Int64) N hc_8) lk_X7_80 q777 ⟨Nat.le_of_ble_eq_true rfl, Nat.le_of_ble_eq_true rfl⟩ rfl (Nat.le_of_ble_eq_true rfl) hl.1 dX7_booked_30 ⟨Nat.zero_le _, Nat.zero_le _⟩ (fun H locs hW => ?_)
      have hW : Wd D A s.heap (wMo cs a σ Λ) H locs := hW
      refine lv_if_eq (tgt := 47) S.1 S.2.1 dX7_booked_33 (by decide) (fun c_9 => ?_) (fun c_9 => ?_)
      · have h := ite_t c_9 h
        exact wMo_booked_47 S hK hA hQ Λ _ _ _ h hW (lv_sub hl [] rfl)
      · have h := ite_f c_9 h
        refine lv_iload S.1 S.2.1 dX7_booked_36 (lv_at hl 4 rfl) ?_
        refine lv_i2l S.1 S.2.1 dX7_booked_38 rfl ?_
        refine lv_lconst (v := 0) S.1 S.2.1 dX7_booked_39 (by decide) ?_
        refine lv_lconst (v := 1) S.1 S.2.1 dX7_booked_40 (by decide) ?_
        obtain ⟨r_10, hc_11, h⟩ := cl1_some h
        refine kS_i (As := [.long (p3.toInt64), .long (0 : Int64), .long (1 : Int64)]) (rest := []) S hK hA (z := none) trivial [] (wMo cs a σ Λ) hW (cMo_in l D cs (p3.toInt64) (0 : Int64) (1 : Int64) N hc_11) lk_X7_80 q777 ⟨Nat.le_of_ble_eq_true rfl, Nat.le_of_ble_eq_true rfl⟩ rfl (Nat.le_of_ble_eq_true rfl) hl.1 dX7_booked_41 ⟨Nat.zero_le _, Nat.zero_le _⟩ (fun H locs hW => ?_)
        have hW : Wd D A s.heap (wMo cs a σ Λ) H locs := hW
        refine lv_if_ne (tgt := 51) S.1 S.2.1 dX7_booked_44 (by decide) (fun c_12 => ?_) (fun c_12 => ?_)
        · have h := ite_f c_12 h
          refine lv_aload_n S.1 S.2.1 dX7_booked_51 rfl (lv_at hl 0 rfl) ?_
          refine lv_iload_n S.1 S.2.1 dX7_booked_52 rfl (lv_at hl 1 rfl) ?_
          refine lv_iload_n S.1 S.2.1 dX7_booked_53 rfl (lv_at hl 2 rfl) ?_
          refine lv_iload_n S.1 S.2.1 dX7_booked_54 rfl (lv_at hl 3 rfl) ?_
          obtain ⟨r_13, hc_14, h⟩ := cl1_some h
          refine kS_l (As := [.int p0, .int p1, .int p2]) (rest := [.ref (a 0)]) S hK hA (z := none) trivial [] (wMo cs a σ Λ) hW (cMo_come l D cs p0 p1 p2 N hc_14) lk_X7_224 q945 ⟨Nat.le_of_ble_eq_true rfl, Nat.le_of_ble_eq_true rfl⟩ rfl (Nat.le_of_ble_eq_true rfl) hl.1 dX7_booked_55 ⟨Nat.zero_le _, Nat.zero_le _⟩ (fun H locs hW => ?_)
          have hW : Wd D A s.heap (wMo cs a σ Λ) H locs := hW
          refine lv_bipush (v := 10) S.1 S.2.1 dX7_booked_58 (by decide) ?_
          refine lv_iload_n S.1 S.2.1 dX7_booked_60 rfl (lv_at hl 1 rfl) ?_
          obtain ⟨r_15, hc_16, h⟩ := cl1_some h
          refine kS_l (As := [.int (10 : Int32), .int p0]) (rest := [.long r_13, .ref (a 0)]) S hK hA (z := none) trivial [] (wMo cs a σ Λ) hW (cMo_power l D cs (10 : Int32) p0 N hc_16) lk_X7_207 q948 ⟨Nat.le_of_ble_eq_true rfl, Nat.le_of_ble_eq_true rfl⟩ rfl (Nat.le_of_ble_eq_true rfl) hl.1 dX7_booked_61 ⟨Nat.zero_le _, Nat.zero_le _⟩ (fun H locs hW => ?_)
          have hW : Wd D A s.heap (wMo cs a σ Λ) H locs := hW
          obtain ⟨Λ_17, hc_18, h⟩ := cl1_some h
          have hW := kw_same hW
          refine kV_v (As := [.long r_13, .long r_15]) (rest := []) S hK hA (z := none) trivial [] [] hW (cMo_lowest l D cs a σ Λ r_13 r_15 N hc_18) (ci := 6) rfl rfl lk_X7_228 q952 q37 ⟨Nat.le_of_ble_eq_true rfl, Nat.le_of_ble_eq_true rfl⟩ rfl (Nat.le_of_ble_eq_true rfl) hl.1 dX7_booked_64 ⟨Nat.zero_le _, Nat.zero_le _⟩ (fun H locs hW => ?_)
          have hW : Wd D A s.heap (wMo cs a σ Λ_17) H locs := kw_back hW
          refine lv_iload S.1 S.2.1 dX7_booked_67 (lv_at hl 4 rfl) ?_
          refine lv_if_ne (tgt := 79) S.1 S.2.1 dX7_booked_69 (by decide) (fun c_19 => ?_) (fun c_19 => ?_)
          · have h := ite_f c_19 h
            refine lv_aload_n S.1 S.2.1 dX7_booked_79 rfl (lv_at hl 0 rfl) ?_
            refine gMo_below S hK hW dX7_booked_80 ?_
            exact wMo_booked_83 S hK hA hQ (Λ_17 28) Λ_17 _ _ _ h hW (lv_sub hl [] rfl)
          · have h := ite_t c_19 h
            refine lv_aload_n S.1 S.2.1 dX7_booked_72 rfl (lv_at hl 0 rfl) ?_
            refine gMo_above S hK hW dX7_booked_73 ?_
            refine lv_goto (tgt := 83) S.1 S.2.1 dX7_booked_76 (by decide) ?_
            exact wMo_booked_83 S hK hA hQ (Λ_17 27) Λ_17 _ _ _ h hW (lv_sub hl [] rfl)
        · have h := ite_t c_12 h
          exact wMo_booked_47 S hK hA hQ Λ _ _ _ h hW (lv_sub hl [] rfl)
set_option maxHeartbeats 4000000 in
set_option maxRecDepth 100000 in
theorem wMo_over_36 {p : Program} {l : Launch} {e : Env} {s : State} {m : MethodId} {args : Array Value} {below : List Frame} {meth : Method} {c : Code} {A : Nat → Prop} {Q : State → Prop} {D : va_G} {cs : Nat → ClassId} {a : Nat → Nat} {σ : St} {Λ : Nat → Int64} {r : Int32} {N : Nat} (S : Fx p m c cX7_over 6 s args RX7) (hK : va_K D vwCl (tyL cs) s) (hA : ∀ x, s.heap.size ≤ x → A x) (hQ : ∀ (H : Heap) (locs : List Loc) (pc : Nat) (ls : Array Slot), decode cX7_over pc = .ok (.ireturn, 1) → narrow .int (.int r) = .int r → Wd D A s.heap (wMo cs a σ Λ) H locs → W p l e { frames := 2, cells := 0, slots := 0, locals := 51 } s m args below meth c H locs 0 0 Q (F0 m pc ls [.int r])) : ∀ (H : Heap) (locs : List Loc) (ls : Array Slot), fMo_over_36 N = some r → Wd D A s.heap (wMo cs a σ Λ) H locs → lv_has ls 6 [] → W p l e { frames := 2, cells := 0, slots := 0, locals := 51 } s m args below meth c H locs 0 0 Q (F0 m 36 ls []) := by
  intro  H locs ls h hW hl
  unfold fMo_over_36 at h
  refine lv_iconst (v := -1) S.1 S.2.1 dX7_over_36 (by decide) ?_
  obtain rfl := pr1 h
  exact hQ _ _ _ _ dX7_over_37 rfl hW
set_option maxHeartbeats 4000000 in
set_option maxRecDepth 100000 in
theorem wMo_over_83 {p : Program} {l : Launch} {e : Env} {s : State} {m : MethodId} {args : Array Value} {below : List Frame} {meth : Method} {c : Code} {A : Nat → Prop} {Q : State → Prop} {D : va_G} {cs : Nat → ClassId} {a : Nat → Nat} {σ : St} {Λ : Nat → Int64} {r : Int32} {N : Nat} (S : Fx p m c cX7_over 6 s args RX7) (hK : va_K D vwCl (tyL cs) s) (hA : ∀ x, s.heap.size ≤ x → A x) (hQ : ∀ (H : Heap) (locs : List Loc) (pc : Nat) (ls : Array Slot), decode cX7_over pc = .ok (.ireturn, 1) → narrow .int (.int r) = .int r → Wd D A s.heap (wMo cs a σ Λ) H locs → W p l e { frames := 2, cells := 0, slots := 0, locals := 51 } s m args below meth c H locs 0 0 Q (F0 m pc ls [.int r])) {k_44 : Int32 → Int32 → Int32 → Int32 → Int32 → Option (Int32)} (hk_44 : ∀ (v1 : Int32) (v2 : Int32) (v3 : Int32) (v4 : Int32) (v5 : Int32) (H : Heap) (locs : List Loc) (ls : Array Slot), k_44 v1 v2 v3 v4 v5 = some r → Wd D A s.heap (wMo cs a σ Λ) H locs → lv_has ls 6 [(1, .int v1), (2, .int v2), (3, .int v3), (4, .int v4), (5, .int v5)] → W p l e { frames := 2, cells := 0, slots := 0, locals := 51 } s m args below meth c H locs 0 0 Q (F0 m 44 ls [])) : ∀ (v1 : Int32) (v2 : Int32) (v3 : Int32) (v5 : Int32) (k0 : Int32) (H : Heap) (locs : List Loc) (ls : Array Slot), fMo_over_83 k_44 N v1 v2 v3 v5 k0 = some r → Wd D A s.heap (wMo cs a σ Λ) H locs → lv_has ls 6 [(1, .int v1), (2, .int v2), (3, .int v3), (5, .int v5)] → W p l e { frames := 2, cells := 0, slots := 0, locals := 51 } s m args below meth c H locs 0 0 Q (F0 m 83 ls [.int k0]) := by
  intro v1 v2 v3 v5 k0 H locs ls h hW hl
  unfold fMo_over_83 at h
  refine lv_istore (lv' := [(4, .int k0), (1, .int v1), (2, .int v2), (3, .int v3), (5, .int v5)]) S.1 S.2.1 dX7_over_83 hl (by decide) rfl (fun ls hl => ?_)
  obtain ⟨x5_1, ex5_1, h⟩ := nm_some h
  refine lv_iinc (v := x5_1) (lv' := [(5, .int x5_1), (4, .int k0), (1, .int v1), (2, .int v2), (3, .int v3)]) S.1 S.2.1 dX7_over_85 hl (k := 4) rfl (by rw [ex5_1]; rfl) (by decide) rfl (fun ls hl => ?_)
  refine lv_goto (tgt := 44) S.1 S.2.1 dX7_over_88 (by decide) ?_
  exact hk_44 v1 v2 v3 k0 x5_1 _ _ _ h hW (lv_sub hl [2, 3, 4, 1, 0] rfl)
set_option maxHeartbeats 4000000 in
set_option maxRecDepth 100000 in
theorem wMo_over_44 {p : Program} {l : Launch} {e : Env} {s : State} {m : MethodId} {args : Array Value} {below : List Frame} {meth : Method} {c : Code} {A : Nat → Prop} {Q : State → Prop} {D : va_G} {cs : Nat → ClassId} {a : Nat → Nat} {σ : St} {Λ : Nat → Int64} {r : Int32} {N : Nat} (S : Fx p m c cX7_over 6 s args RX7) (hK : va_K D vwCl (tyL cs) s) (hA : ∀ x, s.heap.size ≤ x → A x) (hQ : ∀ (H : Heap) (locs : List Loc) (pc : Nat) (ls : Array Slot), decode cX7_over pc = .ok (.ireturn, 1) → narrow .int (.int r) = .int r → Wd D A s.heap (wMo cs a σ Λ) H locs → W p l e { frames := 2, cells := 0, slots := 0, locals := 51 } s m args below meth c H locs 0 0 Q (F0 m pc ls [.int r])) : ∀ (n_44 : Nat) (v1 : Int32) (v2 : Int32) (v3 : Int32) (v4 : Int32) (v5 : Int32) (H : Heap) (locs : List Loc) (ls : Array Slot), fMo_over_44 N n_44 v1 v2 v3 v4 v5 = some r → Wd D A s.heap (wMo cs a σ Λ) H locs → lv_has ls 6 [(1, .int v1), (2, .int v2), (3, .int v3), (4, .int v4), (5, .int v5)] → W p l e { frames := 2, cells := 0, slots := 0, locals := 51 } s m args below meth c H locs 0 0 Q (F0 m 44 ls []) := by
  intro n_44
  induction n_44 with
  | zero =>
    intro v1 v2 v3 v4 v5 H locs ls h
    cases h
  | succ n_44 ih =>
    intro v1 v2 v3 v4 v5 H locs ls h hW hl
    unfold fMo_over_44 at h
    refine lv_iload S.1 S.2.1 dX7_over_44 (lv_at hl 4 rfl) ?_
    refine lv_bipush (v := 15) S.1 S.2.1 dX7_over_46 (by decide) ?_
    refine lv_icmp_ge (tgt := 91) S.1 S.2.1 dX7_over_48 (by decide) (fun c_2 => ?_) (fun c_2 => ?_)
    · have h := ite_t c_2 h
      refine lv_iload S.1 S.2.1 dX7_over_91 (lv_at hl 3 rfl) ?_
      obtain rfl := pr1 h
      exact hQ _ _ _ _ dX7_over_93 rfl hW
    · have h := ite_f c_2 h
      refine lv_ldc2 (v := 100) S.1 S.2.1 S.2.2.2.1 (S.2.2.2.2 _ q958) dX7_over_51 ?_
      refine lv_iload S.1 S.2.1 dX7_over_54 (lv_at hl 4 rfl) ?_
      refine lv_iload_n S.1 S.2.1 dX7_over_56 rfl (lv_at hl 0 rfl) ?_
      refine lv_iload_n S.1 S.2.1 dX7_over_57 rfl (lv_at hl 1 rfl) ?_
      obtain ⟨r_3, hc_4, h⟩ := cl1_some h
      refine kS_l (As := [.int v5, .int v1, .int v2]) (rest := [.long (100 : Int64)]) S hK hA (z := none) trivial [] (wMo cs a σ Λ) hW (cMo_come l D cs v5 v1 v2 N hc_4) lk_X7_224 q945 ⟨Nat.le_of_ble_eq_true rfl, Nat.le_of_ble_eq_true rfl⟩ rfl (Nat.le_of_ble_eq_true rfl) hl.1 dX7_over_58 ⟨Nat.zero_le _, Nat.zero_le _⟩ (fun H locs hW => ?_)
      have hW : Wd D A s.heap (wMo cs a σ Λ) H locs := hW
      refine lv_lmul S.1 S.2.1 dX7_over_61 ?_
      refine lv_iload_n S.1 S.2.1 dX7_over_62 rfl (lv_at hl 2 rfl) ?_
      refine lv_i2l S.1 S.2.1 dX7_over_63 rfl ?_
      refine lv_bipush (v := 10) S.1 S.2.1 dX7_over_64 (by decide) ?_
      refine lv_iload S.1 S.2.1 dX7_over_66 (lv_at hl 4 rfl) ?_
      obtain ⟨r_5, hc_6, h⟩ := cl1_some h
      refine kS_l (As := [.int (10 : Int32), .int v5]) (rest := [.long (v3.toInt64), .long ((100 : Int64) * r_3)]) S hK hA (z := none) trivial [] (wMo cs a σ Λ) hW (cMo_power l D cs (10 : Int32) v5 N hc_6) lk_X7_207 q948 ⟨Nat.le_of_ble_eq_true rfl, Nat.le_of_ble_eq_true rfl⟩ rfl (Nat.le_of_ble_eq_true rfl) hl.1 dX7_over_68 ⟨Nat.zero_le _, Nat.zero_le _⟩ (fun H locs hW => ?_)
      have hW : Wd D A s.heap (wMo cs a σ Λ) H locs := hW
      refine lv_lmul S.1 S.2.1 dX7_over_71 ?_
      refine W.lcmp S.1 S.2.1 dX7_over_72 ?_
      refine lv_if_lt (tgt := 81) S.1 S.2.1 dX7_over_73 (by decide) (fun c_7 => ?_) (fun c_7 => ?_)
      · have h := ite_t c_7 h
        refine lv_iload S.1 S.2.1 dX7_over_81 (lv_at hl 3 rfl) ?_
        exact wMo_over_83 S hK hA hQ ih v1 v2 v3 v5 v4 _ _ _ h hW (lv_sub hl [0, 1, 2, 4] rfl)
      · have h := ite_f c_7 h
        refine lv_iload S.1 S.2.1 dX7_over_76 (lv_at hl 4 rfl) ?_
        refine lv_goto (tgt := 83) S.1 S.2.1 dX7_over_78 (by decide) ?_
        exact wMo_over_83 S hK hA hQ ih v1 v2 v3 v5 v5 _ _ _ h hW (lv_sub hl [0, 1, 2, 4] rfl)
set_option maxHeartbeats 4000000 in
set_option maxRecDepth 100000 in
theorem cMo_over (l : Launch) (D : va_G) (cs : Nat → ClassId) (a : Nat → Nat) (σ : St) (Λ : Nat → Int64) (p0 : Int32) (p1 : Int32) (p2 : Int32) (N : Nat) {r : Int32} (h : fMo_over N p0 p1 p2 = some r) : Ki l D cs none yX7_over cX7_over 6 (some .int) 2 51 (wMo cs a σ Λ) [.ref (a 0), .int p0, .int p1, .int p2] r (wMo cs a σ Λ) := by
  refine Ki_of (by decide +kernel) (Nat.le_of_ble_eq_true rfl) (fun p e s m below meth c A S hK hA hZ Q hQ ls hl hW => ?_)
  have hl : lv_has ls 6 [(0, .ref (a 0)), (1, .int p0), (2, .int p1), (3, .int p2)] := hl
  unfold fMo_over at h
  refine lv_iload_n S.1 S.2.1 dX7_over_0 rfl (lv_at hl 1 rfl) ?_
  refine lv_i2l S.1 S.2.1 dX7_over_1 rfl ?_
  refine lv_lconst (v := 1) S.1 S.2.1 dX7_over_2 (by decide) ?_
  refine lv_ldc2 (v := 14) S.1 S.2.1 S.2.2.2.1 (S.2.2.2.2 _ q941) dX7_over_3 ?_
  obtain ⟨r_8, hc_9, h⟩ := cl1_some h
  refine kS_i (As := [.long (p0.toInt64), .long (1 : Int64), .long (14 : Int64)]) (rest := []) S hK hA (z := none) trivial [] (wMo cs a σ Λ) hW (cMo_in l D cs (p0.toInt64) (1 : Int64) (14 : Int64) N hc_9) lk_X7_80 q777 ⟨Nat.le_of_ble_eq_true rfl, Nat.le_of_ble_eq_true rfl⟩ rfl (Nat.le_of_ble_eq_true rfl) hl.1 dX7_over_6 ⟨Nat.zero_le _, Nat.zero_le _⟩ (fun H locs hW => ?_)
  have hW : Wd D A s.heap (wMo cs a σ Λ) H locs := hW
  refine lv_if_eq (tgt := 36) S.1 S.2.1 dX7_over_9 (by decide) (fun c_10 => ?_) (fun c_10 => ?_)
  · have h := ite_t c_10 h
    exact wMo_over_36 S hK hA hQ _ _ _ h hW (lv_sub hl [] rfl)
  · have h := ite_f c_10 h
    refine lv_iload_n S.1 S.2.1 dX7_over_12 rfl (lv_at hl 2 rfl) ?_
    refine lv_i2l S.1 S.2.1 dX7_over_13 rfl ?_
    refine lv_lconst (v := 0) S.1 S.2.1 dX7_over_14 (by decide) ?_
    refine lv_ldc2 (v := 10) S.1 S.2.1 S.2.2.2.1 (S.2.2.2.2 _ q942) dX7_over_15 ?_
    obtain ⟨r_11, hc_12, h⟩ := cl1_some h
    refine kS_i (As := [.long (p1.toInt64), .long (0 : Int64), .long (10 : Int64)]) (rest := []) S hK hA (z := none) trivial [] (wMo cs a σ Λ) hW (cMo_in l D cs (p1.toInt64) (0 : Int64) (10 : Int64) N hc_12) lk_X7_80 q777 ⟨Nat.le_of_ble_eq_true rfl, Nat.le_of_ble_eq_true rfl⟩ rfl (Nat.le_of_ble_eq_true rfl) hl.1 dX7_over_18 ⟨Nat.zero_le _, Nat.zero_le _⟩ (fun H locs hW => ?_)
    have hW : Wd D A s.heap (wMo cs a σ Λ) H locs := hW
    refine lv_if_eq (tgt := 36) S.1 S.2.1 dX7_over_21 (by decide) (fun c_13 => ?_) (fun c_13 => ?_)
    · have h := ite_t c_13 h
      exact wMo_over_36 S hK hA hQ _ _ _ h hW (lv_sub hl [] rfl)
    · have h := ite_f c_13 h
      refine lv_iload_n S.1 S.2.1 dX7_over_24 rfl (lv_at hl 3 rfl) ?_
      refine lv_i2l S.1 S.2.1 dX7_over_25 rfl ?_
      refine lv_lconst (v := 0) S.1 S.2.1 dX7_over_26 (by decide) ?_
      refine lv_ldc2 (v := 100) S.1 S.2.1 S.2.2.2.1 (S.2.2.2.2 _ q958) dX7_over_27 ?_
      obtain ⟨r_14, hc_15, h⟩ := cl1_some h
      refine kS_i (As := [.long (p2.toInt64), .long (0 : Int64), .long (100 : Int64)]) (rest := []) S hK hA (z := none) trivial [] (wMo cs a σ Λ) hW (cMo_in l D cs (p2.toInt64) (0 : Int64) (100 : Int64) N hc_15) lk_X7_80 q777 ⟨Nat.le_of_ble_eq_true rfl, Nat.le_of_ble_eq_true rfl⟩ rfl (Nat.le_of_ble_eq_true rfl) hl.1 dX7_over_30 ⟨Nat.zero_le _, Nat.zero_le _⟩ (fun H locs hW => ?_)
      have hW : Wd D A s.heap (wMo cs a σ Λ) H locs := hW
      refine lv_if_ne (tgt := 38) S.1 S.2.1 dX7_over_33 (by decide) (fun c_16 => ?_) (fun c_16 => ?_)
      · have h := ite_f c_16 h
        refine lv_iload_n S.1 S.2.1 dX7_over_38 rfl (lv_at hl 1 rfl) ?_
        refine lv_istore (lv' := [(4, .int p0), (0, .ref (a 0)), (1, .int p0), (2, .int p1), (3, .int p2)]) S.1 S.2.1 dX7_over_39 hl (by decide) rfl (fun ls hl => ?_)
        refine lv_iload_n S.1 S.2.1 dX7_over_41 rfl (lv_at hl 2 rfl) ?_
        refine lv_istore (lv' := [(5, .int p0), (4, .int p0), (0, .ref (a 0)), (1, .int p0), (2, .int p1), (3, .int p2)]) S.1 S.2.1 dX7_over_42 hl (by decide) rfl (fun ls hl => ?_)
        exact wMo_over_44 S hK hA hQ N p0 p1 p2 p0 p0 _ _ _ h hW (lv_sub hl [3, 4, 5, 1, 0] rfl)
      · have h := ite_t c_16 h
        exact wMo_over_36 S hK hA hQ _ _ _ h hW (lv_sub hl [] rfl)
set_option maxHeartbeats 4000000 in
set_option maxRecDepth 100000 in
theorem wMo_dare_34 {p : Program} {l : Launch} {e : Env} {s : State} {m : MethodId} {args : Array Value} {below : List Frame} {meth : Method} {c : Code} {A : Nat → Prop} {Q : State → Prop} {D : va_G} {cs : Nat → ClassId} {a : Nat → Nat} {σ : St} {Λ : Nat → Int64} {r : Int32} {N : Nat} (S : Fx p m c cX7_dare 8 s args RX7) (hK : va_K D vwCl (tyL cs) s) (hA : ∀ x, s.heap.size ≤ x → A x) (hQ : ∀ (H : Heap) (locs : List Loc) (pc : Nat) (ls : Array Slot), decode cX7_dare pc = .ok (.ireturn, 1) → narrow .int (.int r) = .int r → Wd D A s.heap (wMo cs a σ Λ) H locs → W p l e { frames := 1, cells := 0, slots := 0, locals := 25 } s m args below meth c H locs 0 0 Q (F0 m pc ls [.int r])) : ∀ (H : Heap) (locs : List Loc) (ls : Array Slot), fMo_dare_34 N σ = some r → Wd D A s.heap (wMo cs a σ Λ) H locs → lv_has ls 8 [] → W p l e { frames := 1, cells := 0, slots := 0, locals := 25 } s m args below meth c H locs 0 0 Q (F0 m 34 ls []) := by
  intro  H locs ls h hW hl
  unfold fMo_dare_34 at h
  refine lv_iconst (v := -1) S.1 S.2.1 dX7_dare_34 (by decide) ?_
  obtain rfl := pr1 h
  exact hQ _ _ _ _ dX7_dare_35 rfl hW
set_option maxHeartbeats 4000000 in
set_option maxRecDepth 100000 in
theorem wMo_dare_131 {p : Program} {l : Launch} {e : Env} {s : State} {m : MethodId} {args : Array Value} {below : List Frame} {meth : Method} {c : Code} {A : Nat → Prop} {Q : State → Prop} {D : va_G} {cs : Nat → ClassId} {a : Nat → Nat} {σ : St} {Λ : Nat → Int64} {r : Int32} {N : Nat} (S : Fx p m c cX7_dare 8 s args RX7) (hK : va_K D vwCl (tyL cs) s) (hA : ∀ x, s.heap.size ≤ x → A x) (hQ : ∀ (H : Heap) (locs : List Loc) (pc : Nat) (ls : Array Slot), decode cX7_dare pc = .ok (.ireturn, 1) → narrow .int (.int r) = .int r → Wd D A s.heap (wMo cs a σ Λ) H locs → W p l e { frames := 1, cells := 0, slots := 0, locals := 25 } s m args below meth c H locs 0 0 Q (F0 m pc ls [.int r])) {k_45 : Int32 → Int32 → Int32 → Int32 → Int32 → Int32 → Option (Int32)} (hk_45 : ∀ (v1 : Int32) (v2 : Int32) (v3 : Int32) (v4 : Int32) (v5 : Int32) (v6 : Int32) (H : Heap) (locs : List Loc) (ls : Array Slot), k_45 v1 v2 v3 v4 v5 v6 = some r → Wd D A s.heap (wMo cs a σ Λ) H locs → lv_has ls 8 [(0, .ref (a 0)), (1, .int v1), (2, .int v2), (3, .int v3), (4, .int v4), (5, .int v5), (6, .int v6)] → W p l e { frames := 1, cells := 0, slots := 0, locals := 25 } s m args below meth c H locs 0 0 Q (F0 m 45 ls [])) : ∀ (v1 : Int32) (v2 : Int32) (v3 : Int32) (v4 : Int32) (v6 : Int32) (k0 : Int32) (k1 : Int32) (H : Heap) (locs : List Loc) (ls : Array Slot), fMo_dare_131 k_45 N σ v1 v2 v3 v4 v6 k0 k1 = some r → Wd D A s.heap (wMo cs a σ Λ) H locs → lv_has ls 8 [(0, .ref (a 0)), (1, .int v1), (2, .int v2), (3, .int v3), (4, .int v4), (6, .int v6)] → W p l e { frames := 1, cells := 0, slots := 0, locals := 25 } s m args below meth c H locs 0 0 Q (F0 m 131 ls [.int k1, .int k0]) := by
  intro v1 v2 v3 v4 v6 k0 k1 H locs ls h hW hl
  unfold fMo_dare_131 at h
  refine lv_iadd S.1 S.2.1 dX7_dare_131 ?_
  refine lv_topi (fun x5_1 ex5_1 => ?_)
  have h := nm_to ex5_1 h
  refine lv_istore (lv' := [(5, .int x5_1), (0, .ref (a 0)), (1, .int v1), (2, .int v2), (3, .int v3), (4, .int v4), (6, .int v6)]) S.1 S.2.1 dX7_dare_132 hl (by decide) rfl (fun ls hl => ?_)
  obtain ⟨x6_2, ex6_2, h⟩ := nm_some h
  refine lv_iinc (v := x6_2) (lv' := [(6, .int x6_2), (5, .int x5_1), (0, .ref (a 0)), (1, .int v1), (2, .int v2), (3, .int v3), (4, .int v4)]) S.1 S.2.1 dX7_dare_134 hl (k := 6) rfl (by rw [ex6_2]; rfl) (by decide) rfl (fun ls hl => ?_)
  refine lv_goto (tgt := 45) S.1 S.2.1 dX7_dare_137 (by decide) ?_
  exact hk_45 v1 v2 v3 v4 x5_1 x6_2 _ _ _ h hW (lv_sub hl [2, 3, 4, 5, 6, 1, 0] rfl)
set_option maxHeartbeats 4000000 in
set_option maxRecDepth 100000 in
theorem wMo_dare_130 {p : Program} {l : Launch} {e : Env} {s : State} {m : MethodId} {args : Array Value} {below : List Frame} {meth : Method} {c : Code} {A : Nat → Prop} {Q : State → Prop} {D : va_G} {cs : Nat → ClassId} {a : Nat → Nat} {σ : St} {Λ : Nat → Int64} {r : Int32} {N : Nat} (S : Fx p m c cX7_dare 8 s args RX7) (hK : va_K D vwCl (tyL cs) s) (hA : ∀ x, s.heap.size ≤ x → A x) (hQ : ∀ (H : Heap) (locs : List Loc) (pc : Nat) (ls : Array Slot), decode cX7_dare pc = .ok (.ireturn, 1) → narrow .int (.int r) = .int r → Wd D A s.heap (wMo cs a σ Λ) H locs → W p l e { frames := 1, cells := 0, slots := 0, locals := 25 } s m args below meth c H locs 0 0 Q (F0 m pc ls [.int r])) {k_45 : Int32 → Int32 → Int32 → Int32 → Int32 → Int32 → Option (Int32)} (hk_45 : ∀ (v1 : Int32) (v2 : Int32) (v3 : Int32) (v4 : Int32) (v5 : Int32) (v6 : Int32) (H : Heap) (locs : List Loc) (ls : Array Slot), k_45 v1 v2 v3 v4 v5 v6 = some r → Wd D A s.heap (wMo cs a σ Λ) H locs → lv_has ls 8 [(0, .ref (a 0)), (1, .int v1), (2, .int v2), (3, .int v3), (4, .int v4), (5, .int v5), (6, .int v6)] → W p l e { frames := 1, cells := 0, slots := 0, locals := 25 } s m args below meth c H locs 0 0 Q (F0 m 45 ls [])) : ∀ (v1 : Int32) (v2 : Int32) (v3 : Int32) (v4 : Int32) (v6 : Int32) (k0 : Int32) (H : Heap) (locs : List Loc) (ls : Array Slot), fMo_dare_130 k_45 N σ v1 v2 v3 v4 v6 k0 = some r → Wd D A s.heap (wMo cs a σ Λ) H locs → lv_has ls 8 [(0, .ref (a 0)), (1, .int v1), (2, .int v2), (3, .int v3), (4, .int v4), (6, .int v6)] → W p l e { frames := 1, cells := 0, slots := 0, locals := 25 } s m args below meth c H locs 0 0 Q (F0 m 130 ls [.int k0]) := by
  intro v1 v2 v3 v4 v6 k0 H locs ls h hW hl
  unfold fMo_dare_130 at h
  refine lv_iconst (v := 0) S.1 S.2.1 dX7_dare_130 (by decide) ?_
  exact wMo_dare_131 S hK hA hQ hk_45 v1 v2 v3 v4 v6 k0 (0 : Int32) _ _ _ h hW (lv_sub hl [0, 1, 2, 3, 4, 5] rfl)
set_option maxHeartbeats 4000000 in
set_option maxRecDepth 100000 in
theorem wMo_dare_103 {p : Program} {l : Launch} {e : Env} {s : State} {m : MethodId} {args : Array Value} {below : List Frame} {meth : Method} {c : Code} {A : Nat → Prop} {Q : State → Prop} {D : va_G} {cs : Nat → ClassId} {a : Nat → Nat} {σ : St} {Λ : Nat → Int64} {r : Int32} {N : Nat} (S : Fx p m c cX7_dare 8 s args RX7) (hK : va_K D vwCl (tyL cs) s) (hA : ∀ x, s.heap.size ≤ x → A x) (hQ : ∀ (H : Heap) (locs : List Loc) (pc : Nat) (ls : Array Slot), decode cX7_dare pc = .ok (.ireturn, 1) → narrow .int (.int r) = .int r → Wd D A s.heap (wMo cs a σ Λ) H locs → W p l e { frames := 1, cells := 0, slots := 0, locals := 25 } s m args below meth c H locs 0 0 Q (F0 m pc ls [.int r])) {k_45 : Int32 → Int32 → Int32 → Int32 → Int32 → Int32 → Option (Int32)} (hk_45 : ∀ (v1 : Int32) (v2 : Int32) (v3 : Int32) (v4 : Int32) (v5 : Int32) (v6 : Int32) (H : Heap) (locs : List Loc) (ls : Array Slot), k_45 v1 v2 v3 v4 v5 v6 = some r → Wd D A s.heap (wMo cs a σ Λ) H locs → lv_has ls 8 [(0, .ref (a 0)), (1, .int v1), (2, .int v2), (3, .int v3), (4, .int v4), (5, .int v5), (6, .int v6)] → W p l e { frames := 1, cells := 0, slots := 0, locals := 25 } s m args below meth c H locs 0 0 Q (F0 m 45 ls [])) : ∀ (v1 : Int32) (v2 : Int32) (v3 : Int32) (v5 : Int32) (v6 : Int32) (v7 : Int32) (k0 : Int32) (k1 : Int32) (H : Heap) (locs : List Loc) (ls : Array Slot), fMo_dare_103 k_45 N σ v1 v2 v3 v5 v6 v7 k0 k1 = some r → Wd D A s.heap (wMo cs a σ Λ) H locs → lv_has ls 8 [(0, .ref (a 0)), (1, .int v1), (2, .int v2), (3, .int v3), (5, .int v5), (6, .int v6), (7, .int v7)] → W p l e { frames := 1, cells := 0, slots := 0, locals := 25 } s m args below meth c H locs 0 0 Q (F0 m 103 ls [.int k1, .int k0]) := by
  intro v1 v2 v3 v5 v6 v7 k0 k1 H locs ls h hW hl
  unfold fMo_dare_103 at h
  refine lv_iadd S.1 S.2.1 dX7_dare_103 ?_
  refine lv_topi (fun x4_3 ex4_3 => ?_)
  have h := nm_to ex4_3 h
  refine lv_istore (lv' := [(4, .int x4_3), (0, .ref (a 0)), (1, .int v1), (2, .int v2), (3, .int v3), (5, .int v5), (6, .int v6), (7, .int v7)]) S.1 S.2.1 dX7_dare_104 hl (by decide) rfl (fun ls hl => ?_)
  refine lv_iload S.1 S.2.1 dX7_dare_106 (lv_at hl 5 rfl) ?_
  refine lv_iload S.1 S.2.1 dX7_dare_108 (lv_at hl 7 rfl) ?_
  refine lv_if_eq (tgt := 130) S.1 S.2.1 dX7_dare_110 (by decide) (fun c_4 => ?_) (fun c_4 => ?_)
  · have h := ite_t c_4 h
    exact wMo_dare_130 S hK hA hQ hk_45 v1 v2 v3 x4_3 v6 v5 _ _ _ h hW (lv_sub hl [1, 2, 3, 4, 0, 6] rfl)
  · have h := ite_f c_4 h
    refine lv_aload_n S.1 S.2.1 dX7_dare_113 rfl (lv_at hl 1 rfl) ?_
    refine lv_iload S.1 S.2.1 dX7_dare_114 (lv_at hl 6 rfl) ?_
    refine lv_iconst (v := 3) S.1 S.2.1 dX7_dare_116 (by decide) ?_
    obtain ⟨r_5, hc_6, h⟩ := cl1_some h
    have hW := kw_same hW
    refine kV_i (As := [.int v6, .int (3 : Int32)]) (rest := [.int v5]) S hK hA (z := none) trivial [] [] hW (cMo_of l D cs a σ Λ v6 (3 : Int32) N hc_6) (ci := 6) rfl rfl lk_X7_135 q825 q26 ⟨Nat.le_of_ble_eq_true rfl, Nat.le_of_ble_eq_true rfl⟩ rfl (Nat.le_of_ble_eq_true rfl) hl.1 dX7_dare_117 ⟨Nat.zero_le _, Nat.zero_le _⟩ (fun H locs hW => ?_)
    have hW : Wd D A s.heap (wMo cs a σ Λ) H locs := kw_back hW
    refine lv_iload_n S.1 S.2.1 dX7_dare_120 rfl (lv_at hl 2 rfl) ?_
    refine lv_iload_n S.1 S.2.1 dX7_dare_121 rfl (lv_at hl 3 rfl) ?_
    refine lv_iadd S.1 S.2.1 dX7_dare_122 ?_
    refine lv_icmp_gt (tgt := 130) S.1 S.2.1 dX7_dare_123 (by decide) (fun c_7 => ?_) (fun c_7 => ?_)
    · have h := ite_t c_7 h
      exact wMo_dare_130 S hK hA hQ hk_45 v1 v2 v3 x4_3 v6 v5 _ _ _ h hW (lv_sub hl [1, 2, 3, 4, 0, 6] rfl)
    · have h := ite_f c_7 h
      refine lv_iconst (v := 1) S.1 S.2.1 dX7_dare_126 (by decide) ?_
      refine lv_goto (tgt := 131) S.1 S.2.1 dX7_dare_127 (by decide) ?_
      exact wMo_dare_131 S hK hA hQ hk_45 v1 v2 v3 x4_3 v6 v5 (1 : Int32) _ _ _ h hW (lv_sub hl [1, 2, 3, 4, 0, 6] rfl)
set_option maxHeartbeats 4000000 in
set_option maxRecDepth 100000 in
theorem wMo_dare_89 {p : Program} {l : Launch} {e : Env} {s : State} {m : MethodId} {args : Array Value} {below : List Frame} {meth : Method} {c : Code} {A : Nat → Prop} {Q : State → Prop} {D : va_G} {cs : Nat → ClassId} {a : Nat → Nat} {σ : St} {Λ : Nat → Int64} {r : Int32} {N : Nat} (S : Fx p m c cX7_dare 8 s args RX7) (hK : va_K D vwCl (tyL cs) s) (hA : ∀ x, s.heap.size ≤ x → A x) (hQ : ∀ (H : Heap) (locs : List Loc) (pc : Nat) (ls : Array Slot), decode cX7_dare pc = .ok (.ireturn, 1) → narrow .int (.int r) = .int r → Wd D A s.heap (wMo cs a σ Λ) H locs → W p l e { frames := 1, cells := 0, slots := 0, locals := 25 } s m args below meth c H locs 0 0 Q (F0 m pc ls [.int r])) {k_45 : Int32 → Int32 → Int32 → Int32 → Int32 → Int32 → Option (Int32)} (hk_45 : ∀ (v1 : Int32) (v2 : Int32) (v3 : Int32) (v4 : Int32) (v5 : Int32) (v6 : Int32) (H : Heap) (locs : List Loc) (ls : Array Slot), k_45 v1 v2 v3 v4 v5 v6 = some r → Wd D A s.heap (wMo cs a σ Λ) H locs → lv_has ls 8 [(0, .ref (a 0)), (1, .int v1), (2, .int v2), (3, .int v3), (4, .int v4), (5, .int v5), (6, .int v6)] → W p l e { frames := 1, cells := 0, slots := 0, locals := 25 } s m args below meth c H locs 0 0 Q (F0 m 45 ls [])) : ∀ (v1 : Int32) (v2 : Int32) (v3 : Int32) (v4 : Int32) (v5 : Int32) (v6 : Int32) (k0 : Int32) (H : Heap) (locs : List Loc) (ls : Array Slot), fMo_dare_89 k_45 N σ v1 v2 v3 v4 v5 v6 k0 = some r → Wd D A s.heap (wMo cs a σ Λ) H locs → lv_has ls 8 [(0, .ref (a 0)), (1, .int v1), (2, .int v2), (3, .int v3), (4, .int v4), (5, .int v5), (6, .int v6)] → W p l e { frames := 1, cells := 0, slots := 0, locals := 25 } s m args below meth c H locs 0 0 Q (F0 m 89 ls [.int k0]) := by
  intro v1 v2 v3 v4 v5 v6 k0 H locs ls h hW hl
  unfold fMo_dare_89 at h
  refine lv_istore (lv' := [(7, .int k0), (0, .ref (a 0)), (1, .int v1), (2, .int v2), (3, .int v3), (4, .int v4), (5, .int v5), (6, .int v6)]) S.1 S.2.1 dX7_dare_89 hl (by decide) rfl (fun ls hl => ?_)
  refine lv_iload S.1 S.2.1 dX7_dare_91 (lv_at hl 5 rfl) ?_
  refine lv_iload S.1 S.2.1 dX7_dare_93 (lv_at hl 0 rfl) ?_
  refine lv_if_eq (tgt := 102) S.1 S.2.1 dX7_dare_95 (by decide) (fun c_8 => ?_) (fun c_8 => ?_)
  · have h := ite_t c_8 h
    refine lv_iconst (v := 0) S.1 S.2.1 dX7_dare_102 (by decide) ?_
    exact wMo_dare_103 S hK hA hQ hk_45 v1 v2 v3 v5 v6 k0 v4 (0 : Int32) _ _ _ h hW (lv_sub hl [1, 2, 3, 4, 6, 7, 0] rfl)
  · have h := ite_f c_8 h
    refine lv_iconst (v := 1) S.1 S.2.1 dX7_dare_98 (by decide) ?_
    refine lv_goto (tgt := 103) S.1 S.2.1 dX7_dare_99 (by decide) ?_
    exact wMo_dare_103 S hK hA hQ hk_45 v1 v2 v3 v5 v6 k0 v4 (1 : Int32) _ _ _ h hW (lv_sub hl [1, 2, 3, 4, 6, 7, 0] rfl)
set_option maxHeartbeats 4000000 in
set_option maxRecDepth 100000 in
theorem wMo_dare_88 {p : Program} {l : Launch} {e : Env} {s : State} {m : MethodId} {args : Array Value} {below : List Frame} {meth : Method} {c : Code} {A : Nat → Prop} {Q : State → Prop} {D : va_G} {cs : Nat → ClassId} {a : Nat → Nat} {σ : St} {Λ : Nat → Int64} {r : Int32} {N : Nat} (S : Fx p m c cX7_dare 8 s args RX7) (hK : va_K D vwCl (tyL cs) s) (hA : ∀ x, s.heap.size ≤ x → A x) (hQ : ∀ (H : Heap) (locs : List Loc) (pc : Nat) (ls : Array Slot), decode cX7_dare pc = .ok (.ireturn, 1) → narrow .int (.int r) = .int r → Wd D A s.heap (wMo cs a σ Λ) H locs → W p l e { frames := 1, cells := 0, slots := 0, locals := 25 } s m args below meth c H locs 0 0 Q (F0 m pc ls [.int r])) {k_45 : Int32 → Int32 → Int32 → Int32 → Int32 → Int32 → Option (Int32)} (hk_45 : ∀ (v1 : Int32) (v2 : Int32) (v3 : Int32) (v4 : Int32) (v5 : Int32) (v6 : Int32) (H : Heap) (locs : List Loc) (ls : Array Slot), k_45 v1 v2 v3 v4 v5 v6 = some r → Wd D A s.heap (wMo cs a σ Λ) H locs → lv_has ls 8 [(0, .ref (a 0)), (1, .int v1), (2, .int v2), (3, .int v3), (4, .int v4), (5, .int v5), (6, .int v6)] → W p l e { frames := 1, cells := 0, slots := 0, locals := 25 } s m args below meth c H locs 0 0 Q (F0 m 45 ls [])) : ∀ (v1 : Int32) (v2 : Int32) (v3 : Int32) (v4 : Int32) (v5 : Int32) (v6 : Int32) (H : Heap) (locs : List Loc) (ls : Array Slot), fMo_dare_88 k_45 N σ v1 v2 v3 v4 v5 v6 = some r → Wd D A s.heap (wMo cs a σ Λ) H locs → lv_has ls 8 [(0, .ref (a 0)), (1, .int v1), (2, .int v2), (3, .int v3), (4, .int v4), (5, .int v5), (6, .int v6)] → W p l e { frames := 1, cells := 0, slots := 0, locals := 25 } s m args below meth c H locs 0 0 Q (F0 m 88 ls []) := by
  intro v1 v2 v3 v4 v5 v6 H locs ls h hW hl
  unfold fMo_dare_88 at h
  refine lv_iconst (v := 0) S.1 S.2.1 dX7_dare_88 (by decide) ?_
  exact wMo_dare_89 S hK hA hQ hk_45 v1 v2 v3 v4 v5 v6 (0 : Int32) _ _ _ h hW (lv_sub hl [0, 1, 2, 3, 4, 5, 6] rfl)
set_option maxHeartbeats 4000000 in
set_option maxRecDepth 100000 in
theorem wMo_dare_161 {p : Program} {l : Launch} {e : Env} {s : State} {m : MethodId} {args : Array Value} {below : List Frame} {meth : Method} {c : Code} {A : Nat → Prop} {Q : State → Prop} {D : va_G} {cs : Nat → ClassId} {a : Nat → Nat} {σ : St} {Λ : Nat → Int64} {r : Int32} {N : Nat} (S : Fx p m c cX7_dare 8 s args RX7) (hK : va_K D vwCl (tyL cs) s) (hA : ∀ x, s.heap.size ≤ x → A x) (hQ : ∀ (H : Heap) (locs : List Loc) (pc : Nat) (ls : Array Slot), decode cX7_dare pc = .ok (.ireturn, 1) → narrow .int (.int r) = .int r → Wd D A s.heap (wMo cs a σ Λ) H locs → W p l e { frames := 1, cells := 0, slots := 0, locals := 25 } s m args below meth c H locs 0 0 Q (F0 m pc ls [.int r])) : ∀ (k0 : Int32) (H : Heap) (locs : List Loc) (ls : Array Slot), fMo_dare_161 N σ k0 = some r → Wd D A s.heap (wMo cs a σ Λ) H locs → lv_has ls 8 [] → W p l e { frames := 1, cells := 0, slots := 0, locals := 25 } s m args below meth c H locs 0 0 Q (F0 m 161 ls [.int k0]) := by
  intro k0 H locs ls h hW hl
  unfold fMo_dare_161 at h
  obtain rfl := pr1 h
  exact hQ _ _ _ _ dX7_dare_161 rfl hW
set_option maxHeartbeats 4000000 in
set_option maxRecDepth 100000 in
theorem wMo_dare_45 {p : Program} {l : Launch} {e : Env} {s : State} {m : MethodId} {args : Array Value} {below : List Frame} {meth : Method} {c : Code} {A : Nat → Prop} {Q : State → Prop} {D : va_G} {cs : Nat → ClassId} {a : Nat → Nat} {σ : St} {Λ : Nat → Int64} {r : Int32} {N : Nat} (S : Fx p m c cX7_dare 8 s args RX7) (hK : va_K D vwCl (tyL cs) s) (hA : ∀ x, s.heap.size ≤ x → A x) (hQ : ∀ (H : Heap) (locs : List Loc) (pc : Nat) (ls : Array Slot), decode cX7_dare pc = .ok (.ireturn, 1) → narrow .int (.int r) = .int r → Wd D A s.heap (wMo cs a σ Λ) H locs → W p l e { frames := 1, cells := 0, slots := 0, locals := 25 } s m args below meth c H locs 0 0 Q (F0 m pc ls [.int r])) : ∀ (n_45 : Nat) (v1 : Int32) (v2 : Int32) (v3 : Int32) (v4 : Int32) (v5 : Int32) (v6 : Int32) (H : Heap) (locs : List Loc) (ls : Array Slot), fMo_dare_45 N σ n_45 v1 v2 v3 v4 v5 v6 = some r → Wd D A s.heap (wMo cs a σ Λ) H locs → lv_has ls 8 [(0, .ref (a 0)), (1, .int v1), (2, .int v2), (3, .int v3), (4, .int v4), (5, .int v5), (6, .int v6)] → W p l e { frames := 1, cells := 0, slots := 0, locals := 25 } s m args below meth c H locs 0 0 Q (F0 m 45 ls []) := by
  intro n_45
  induction n_45 with
  | zero =>
    intro v1 v2 v3 v4 v5 v6 H locs ls h
    cases h
  | succ n_45 ih =>
    intro v1 v2 v3 v4 v5 v6 H locs ls h hW hl
    unfold fMo_dare_45 at h
    refine lv_iload S.1 S.2.1 dX7_dare_45 (lv_at hl 6 rfl) ?_
    refine lv_aload_n S.1 S.2.1 dX7_dare_47 rfl (lv_at hl 0 rfl) ?_
    refine gMo_readers S hK hW dX7_dare_48 ?_
    refine lv_iconst (v := 0) S.1 S.2.1 dX7_dare_51 (by decide) ?_
    obtain ⟨hi_9, h⟩ := gI_some h
    refine lMo_readers S hK hW hi_9 dX7_dare_52 ?_
    refine lv_icmp_ge (tgt := 140) S.1 S.2.1 dX7_dare_53 (by decide) (fun c_10 => ?_) (fun c_10 => ?_)
    · have h := ite_t c_10 h
      refine lv_iload S.1 S.2.1 dX7_dare_140 (lv_at hl 4 rfl) ?_
      refine lv_if_ne (tgt := 150) S.1 S.2.1 dX7_dare_142 (by decide) (fun c_11 => ?_) (fun c_11 => ?_)
      · have h := ite_f c_11 h
        refine lv_iload_n S.1 S.2.1 dX7_dare_150 rfl (lv_at hl 3 rfl) ?_
        refine lv_if_ne (tgt := 159) S.1 S.2.1 dX7_dare_151 (by decide) (fun c_12 => ?_) (fun c_12 => ?_)
        · have h := ite_f c_12 h
          refine lv_iload S.1 S.2.1 dX7_dare_159 (lv_at hl 4 rfl) ?_
          exact wMo_dare_161 S hK hA hQ v4 _ _ _ h hW (lv_sub hl [] rfl)
        · have h := ite_t c_12 h
          refine lv_iload S.1 S.2.1 dX7_dare_154 (lv_at hl 5 rfl) ?_
          refine lv_goto (tgt := 161) S.1 S.2.1 dX7_dare_156 (by decide) ?_
          exact wMo_dare_161 S hK hA hQ v5 _ _ _ h hW (lv_sub hl [] rfl)
      · have h := ite_t c_11 h
        refine lv_bipush (v := -4) S.1 S.2.1 dX7_dare_145 (by decide) ?_
        refine lv_goto (tgt := 161) S.1 S.2.1 dX7_dare_147 (by decide) ?_
        exact wMo_dare_161 S hK hA hQ (-4 : Int32) _ _ _ h hW (lv_sub hl [] rfl)
    · have h := ite_f c_10 h
      refine lv_aload_n S.1 S.2.1 dX7_dare_56 rfl (lv_at hl 0 rfl) ?_
      refine lv_iload S.1 S.2.1 dX7_dare_57 (lv_at hl 6 rfl) ?_
      refine lv_iconst (v := 2) S.1 S.2.1 dX7_dare_59 (by decide) ?_
      obtain ⟨r_13, hc_14, h⟩ := cl1_some h
      have hW := kw_same hW
      refine kV_i (As := [.int v6, .int (2 : Int32)]) (rest := []) S hK hA (z := none) trivial [] [] hW (cMo_of l D cs a σ Λ v6 (2 : Int32) N hc_14) (ci := 6) rfl rfl lk_X7_135 q825 q26 ⟨Nat.le_of_ble_eq_true rfl, Nat.le_of_ble_eq_true rfl⟩ rfl (Nat.le_of_ble_eq_true rfl) hl.1 dX7_dare_60 ⟨Nat.zero_le _, Nat.zero_le _⟩ (fun H locs hW => ?_)
      have hW : Wd D A s.heap (wMo cs a σ Λ) H locs := kw_back hW
      refine lv_aload_n S.1 S.2.1 dX7_dare_63 rfl (lv_at hl 0 rfl) ?_
      refine lv_iload S.1 S.2.1 dX7_dare_64 (lv_at hl 6 rfl) ?_
      refine lv_iconst (v := 1) S.1 S.2.1 dX7_dare_66 (by decide) ?_
      obtain ⟨r_15, hc_16, h⟩ := cl1_some h
      have hW := kw_same hW
      refine kV_i (As := [.int v6, .int (1 : Int32)]) (rest := [.int r_13]) S hK hA (z := none) trivial [] [] hW (cMo_of l D cs a σ Λ v6 (1 : Int32) N hc_16) (ci := 6) rfl rfl lk_X7_135 q825 q26 ⟨Nat.le_of_ble_eq_true rfl, Nat.le_of_ble_eq_true rfl⟩ rfl (Nat.le_of_ble_eq_true rfl) hl.1 dX7_dare_67 ⟨Nat.zero_le _, Nat.zero_le _⟩ (fun H locs hW => ?_)
      have hW : Wd D A s.heap (wMo cs a σ Λ) H locs := kw_back hW
      refine lv_icmp_ge (tgt := 88) S.1 S.2.1 dX7_dare_70 (by decide) (fun c_17 => ?_) (fun c_17 => ?_)
      · have h := ite_t c_17 h
        exact wMo_dare_88 S hK hA hQ ih v1 v2 v3 v4 v5 v6 _ _ _ h hW (lv_sub hl [0, 1, 2, 3, 4, 5, 6] rfl)
      · have h := ite_f c_17 h
        refine lv_aload_n S.1 S.2.1 dX7_dare_73 rfl (lv_at hl 0 rfl) ?_
        refine lv_iload S.1 S.2.1 dX7_dare_74 (lv_at hl 6 rfl) ?_
        refine lv_iconst (v := 3) S.1 S.2.1 dX7_dare_76 (by decide) ?_
        obtain ⟨r_18, hc_19, h⟩ := cl1_some h
        have hW := kw_same hW
        refine kV_i (As := [.int v6, .int (3 : Int32)]) (rest := []) S hK hA (z := none) trivial [] [] hW (cMo_of l D cs a σ Λ v6 (3 : Int32) N hc_19) (ci := 6) rfl rfl lk_X7_135 q825 q26 ⟨Nat.le_of_ble_eq_true rfl, Nat.le_of_ble_eq_true rfl⟩ rfl (Nat.le_of_ble_eq_true rfl) hl.1 dX7_dare_77 ⟨Nat.zero_le _, Nat.zero_le _⟩ (fun H locs hW => ?_)
        have hW : Wd D A s.heap (wMo cs a σ Λ) H locs := kw_back hW
        refine lv_iload_n S.1 S.2.1 dX7_dare_80 rfl (lv_at hl 1 rfl) ?_
        refine lv_icmp_le (tgt := 88) S.1 S.2.1 dX7_dare_81 (by decide) (fun c_20 => ?_) (fun c_20 => ?_)
        · have h := ite_t c_20 h
          exact wMo_dare_88 S hK hA hQ ih v1 v2 v3 v4 v5 v6 _ _ _ h hW (lv_sub hl [0, 1, 2, 3, 4, 5, 6] rfl)
        · have h := ite_f c_20 h
          refine lv_iconst (v := 1) S.1 S.2.1 dX7_dare_84 (by decide) ?_
          refine lv_goto (tgt := 89) S.1 S.2.1 dX7_dare_85 (by decide) ?_
          exact wMo_dare_89 S hK hA hQ ih v1 v2 v3 v4 v5 v6 (1 : Int32) _ _ _ h hW (lv_sub hl [0, 1, 2, 3, 4, 5, 6] rfl)
set_option maxHeartbeats 4000000 in
set_option maxRecDepth 100000 in
theorem cMo_dare (l : Launch) (D : va_G) (cs : Nat → ClassId) (a : Nat → Nat) (σ : St) (Λ : Nat → Int64) (p0 : Int32) (p1 : Int32) (p2 : Int32) (N : Nat) {r : Int32} (h : fMo_dare N p0 p1 p2 σ = some r) : Ki l D cs none yX7_dare cX7_dare 8 (some .int) 1 25 (wMo cs a σ Λ) [.ref (a 0), .int p0, .int p1, .int p2] r (wMo cs a σ Λ) := by
  refine Ki_of (by decide +kernel) (Nat.le_of_ble_eq_true rfl) (fun p e s m below meth c A S hK hA hZ Q hQ ls hl hW => ?_)
  have hl : lv_has ls 8 [(0, .ref (a 0)), (1, .int p0), (2, .int p1), (3, .int p2)] := hl
  unfold fMo_dare at h
  refine lv_iload_n S.1 S.2.1 dX7_dare_0 rfl (lv_at hl 1 rfl) ?_
  refine lv_i2l S.1 S.2.1 dX7_dare_1 rfl ?_
  refine lv_lconst (v := 0) S.1 S.2.1 dX7_dare_2 (by decide) ?_
  refine lv_ldc2 (v := 98) S.1 S.2.1 S.2.2.2.1 (S.2.2.2.2 _ q963) dX7_dare_3 ?_
  obtain ⟨r_21, hc_22, h⟩ := cl1_some h
  refine kS_i (As := [.long (p0.toInt64), .long (0 : Int64), .long (98 : Int64)]) (rest := []) S hK hA (z := none) trivial [] (wMo cs a σ Λ) hW (cMo_in l D cs (p0.toInt64) (0 : Int64) (98 : Int64) N hc_22) lk_X7_80 q777 ⟨Nat.le_of_ble_eq_true rfl, Nat.le_of_ble_eq_true rfl⟩ rfl (Nat.le_of_ble_eq_true rfl) hl.1 dX7_dare_6 ⟨Nat.zero_le _, Nat.zero_le _⟩ (fun H locs hW => ?_)
  have hW : Wd D A s.heap (wMo cs a σ Λ) H locs := hW
  refine lv_if_eq (tgt := 34) S.1 S.2.1 dX7_dare_9 (by decide) (fun c_23 => ?_) (fun c_23 => ?_)
  · have h := ite_t c_23 h
    exact wMo_dare_34 S hK hA hQ _ _ _ h hW (lv_sub hl [] rfl)
  · have h := ite_f c_23 h
    refine lv_iload_n S.1 S.2.1 dX7_dare_12 rfl (lv_at hl 2 rfl) ?_
    refine lv_i2l S.1 S.2.1 dX7_dare_13 rfl ?_
    refine lv_lconst (v := 1) S.1 S.2.1 dX7_dare_14 (by decide) ?_
    refine lv_ldc2 (v := 99) S.1 S.2.1 S.2.2.2.1 (S.2.2.2.2 _ q919) dX7_dare_15 ?_
    obtain ⟨r_24, hc_25, h⟩ := cl1_some h
    refine kS_i (As := [.long (p1.toInt64), .long (1 : Int64), .long (99 : Int64)]) (rest := []) S hK hA (z := none) trivial [] (wMo cs a σ Λ) hW (cMo_in l D cs (p1.toInt64) (1 : Int64) (99 : Int64) N hc_25) lk_X7_80 q777 ⟨Nat.le_of_ble_eq_true rfl, Nat.le_of_ble_eq_true rfl⟩ rfl (Nat.le_of_ble_eq_true rfl) hl.1 dX7_dare_18 ⟨Nat.zero_le _, Nat.zero_le _⟩ (fun H locs hW => ?_)
    have hW : Wd D A s.heap (wMo cs a σ Λ) H locs := hW
    refine lv_if_eq (tgt := 34) S.1 S.2.1 dX7_dare_21 (by decide) (fun c_26 => ?_) (fun c_26 => ?_)
    · have h := ite_t c_26 h
      exact wMo_dare_34 S hK hA hQ _ _ _ h hW (lv_sub hl [] rfl)
    · have h := ite_f c_26 h
      refine lv_iload_n S.1 S.2.1 dX7_dare_24 rfl (lv_at hl 3 rfl) ?_
      refine lv_i2l S.1 S.2.1 dX7_dare_25 rfl ?_
      refine lv_lconst (v := 0) S.1 S.2.1 dX7_dare_26 (by decide) ?_
      refine lv_lconst (v := 1) S.1 S.2.1 dX7_dare_27 (by decide) ?_
      obtain ⟨r_27, hc_28, h⟩ := cl1_some h
      refine kS_i (As := [.long (p2.toInt64), .long (0 : Int64), .long (1 : Int64)]) (rest := []) S hK hA (z := none) trivial [] (wMo cs a σ Λ) hW (cMo_in l D cs (p2.toInt64) (0 : Int64) (1 : Int64) N hc_28) lk_X7_80 q777 ⟨Nat.le_of_ble_eq_true rfl, Nat.le_of_ble_eq_true rfl⟩ rfl (Nat.le_of_ble_eq_true rfl) hl.1 dX7_dare_28 ⟨Nat.zero_le _, Nat.zero_le _⟩ (fun H locs hW => ?_)
      have hW : Wd D A s.heap (wMo cs a σ Λ) H locs := hW
      refine lv_if_ne (tgt := 36) S.1 S.2.1 dX7_dare_31 (by decide) (fun c_29 => ?_) (fun c_29 => ?_)
      · have h := ite_f c_29 h
        refine lv_iconst (v := 0) S.1 S.2.1 dX7_dare_36 (by decide) ?_
        refine lv_istore (lv' := [(4, .int (0 : Int32)), (0, .ref (a 0)), (1, .int p0), (2, .int p1), (3, .int p2)]) S.1 S.2.1 dX7_dare_37 hl (by decide) rfl (fun ls hl => ?_)
        refine lv_iconst (v := 0) S.1 S.2.1 dX7_dare_39 (by decide) ?_
        refine lv_istore (lv' := [(5, .int (0 : Int32)), (4, .int (0 : Int32)), (0, .ref (a 0)), (1, .int p0), (2, .int p1), (3, .int p2)]) S.1 S.2.1 dX7_dare_40 hl (by decide) rfl (fun ls hl => ?_)
        refine lv_iconst (v := 0) S.1 S.2.1 dX7_dare_42 (by decide) ?_
        refine lv_istore (lv' := [(6, .int (0 : Int32)), (5, .int (0 : Int32)), (4, .int (0 : Int32)), (0, .ref (a 0)), (1, .int p0), (2, .int p1), (3, .int p2)]) S.1 S.2.1 dX7_dare_43 hl (by decide) rfl (fun ls hl => ?_)
        exact wMo_dare_45 S hK hA hQ N p0 p1 p2 (0 : Int32) (0 : Int32) (0 : Int32) _ _ _ h hW (lv_sub hl [3, 4, 5, 6, 2, 1, 0] rfl)
      · have h := ite_t c_29 h
        exact wMo_dare_34 S hK hA hQ _ _ _ h hW (lv_sub hl [] rfl)
set_option maxHeartbeats 4000000 in
set_option maxRecDepth 100000 in
theorem wMo_drawnDay_2 {p : Program} {l : Launch} {e : Env} {s : State} {m : MethodId} {args : Array Value} {below : List Frame} {meth : Method} {c : Code} {A : Nat → Prop} {Q : State → Prop} {D : va_G} {cs : Nat → ClassId} {a : Nat → Nat} {Λ : Nat → Int64} {r : Int32} {σ' : St} {N : Nat} (S : Fx p m c cX7_drawnDay 6 s args RX7) (hK : va_K D vwCl (tyL cs) s) (hA : ∀ x, s.heap.size ≤ x → A x) (hQ : ∀ (H : Heap) (locs : List Loc) (pc : Nat) (ls : Array Slot), decode cX7_drawnDay pc = .ok (.ireturn, 1) → narrow .int (.int r) = .int r → Wd D A s.heap (wMo cs a σ' Λ) H locs → W p l e { frames := 5, cells := 0, slots := 0, locals := 125 } s m args below meth c H locs 0 0 Q (F0 m pc ls [.int r])) : ∀ (n_2 : Nat) (v1 : Int32) (v2 : Int32) (v3 : Int32) (σ : St) (H : Heap) (locs : List Loc) (ls : Array Slot), fMo_drawnDay_2 N n_2 v1 v2 v3 σ = some (r, σ') → Wd D A s.heap (wMo cs a σ Λ) H locs → lv_has ls 6 [(0, .ref (a 0)), (1, .int v1), (2, .int v2), (3, .int v3)] → W p l e { frames := 5, cells := 0, slots := 0, locals := 125 } s m args below meth c H locs 0 0 Q (F0 m 2 ls []) := by
  intro n_2
  induction n_2 with
  | zero =>
    intro v1 v2 v3 σ H locs ls h
    cases h
  | succ n_2 ih =>
    intro v1 v2 v3 σ H locs ls h hW hl
    unfold fMo_drawnDay_2 at h
    refine lv_iload_n S.1 S.2.1 dX7_drawnDay_2 rfl (lv_at hl 3 rfl) ?_
    refine lv_bipush (v := 8) S.1 S.2.1 dX7_drawnDay_3 (by decide) ?_
    refine lv_icmp_ge (tgt := 57) S.1 S.2.1 dX7_drawnDay_5 (by decide) (fun c_1 => ?_) (fun c_1 => ?_)
    · have h := ite_t c_1 h
      refine lv_aload_n S.1 S.2.1 dX7_drawnDay_57 rfl (lv_at hl 0 rfl) ?_
      refine lv_iload_n S.1 S.2.1 dX7_drawnDay_58 rfl (lv_at hl 2 rfl) ?_
      refine lv_aload_n S.1 S.2.1 dX7_drawnDay_59 rfl (lv_at hl 0 rfl) ?_
      refine gMo_holders S hK hW dX7_drawnDay_60 ?_
      refine lv_sipush (v := 399) S.1 S.2.1 dX7_drawnDay_63 (by decide) ?_
      refine lv_aload_n S.1 S.2.1 dX7_drawnDay_66 rfl (lv_at hl 0 rfl) ?_
      refine gMo_told S hK hW dX7_drawnDay_67 ?_
      refine lv_iconst (v := 0) S.1 S.2.1 dX7_drawnDay_70 (by decide) ?_
      obtain ⟨hi_2, h⟩ := gI_some h
      refine lMo_told S hK hW hi_2 dX7_drawnDay_71 ?_
      refine lv_aload_n S.1 S.2.1 dX7_drawnDay_72 rfl (lv_at hl 0 rfl) ?_
      refine gMo_told S hK hW dX7_drawnDay_73 ?_
      refine lv_iconst (v := 1) S.1 S.2.1 dX7_drawnDay_76 (by decide) ?_
      obtain ⟨hi_3, h⟩ := gI_some h
      refine lMo_told S hK hW hi_3 dX7_drawnDay_77 ?_
      obtain ⟨σ_4, hc_5, h⟩ := cl1_some h
      have hW := kw_same hW
      refine kV_v (As := [.int v2, .int (σ 0 8), .int (399 : Int32), .int (σ 8 (0 : Int32).toNatClampNeg), .int (σ 8 (1 : Int32).toNatClampNeg)]) (rest := []) S hK hA (z := none) trivial [] [] hW (cMo_run l D cs a σ Λ v2 (σ 0 8) (399 : Int32) (σ 8 (0 : Int32).toNatClampNeg) (σ 8 (1 : Int32).toNatClampNeg) N hc_5) (ci := 6) rfl rfl lk_X7_173 q853 q28 ⟨Nat.le_of_ble_eq_true rfl, Nat.le_of_ble_eq_true rfl⟩ rfl (Nat.le_of_ble_eq_true rfl) hl.1 dX7_drawnDay_78 ⟨Nat.zero_le _, Nat.zero_le _⟩ (fun H locs hW => ?_)
      have hW : Wd D A s.heap (wMo cs a σ_4 Λ) H locs := kw_back hW
      refine lv_aload_n S.1 S.2.1 dX7_drawnDay_81 rfl (lv_at hl 0 rfl) ?_
      refine gMo_shut S hK hW dX7_drawnDay_82 ?_
      obtain ⟨r_6, hc_7, h⟩ := cl1_some h
      refine kS_i (As := [.int (σ_4 0 22)]) (rest := []) S hK hA (z := none) trivial [] (wMo cs a σ_4 Λ) hW (cMo_many l D cs (σ_4 0 22) N hc_7) lk_X7_195 q896 ⟨Nat.le_of_ble_eq_true rfl, Nat.le_of_ble_eq_true rfl⟩ rfl (Nat.le_of_ble_eq_true rfl) hl.1 dX7_drawnDay_85 ⟨Nat.zero_le _, Nat.zero_le _⟩ (fun H locs hW => ?_)
      have hW : Wd D A s.heap (wMo cs a σ_4 Λ) H locs := hW
      obtain ⟨rfl, rfl⟩ := pr2 h
      exact hQ _ _ _ _ dX7_drawnDay_88 rfl hW
    · have h := ite_f c_1 h
      refine lv_ldc2 (v := 7919) S.1 S.2.1 S.2.2.2.1 (S.2.2.2.2 _ q975) dX7_drawnDay_8 ?_
      refine lv_iload_n S.1 S.2.1 dX7_drawnDay_11 rfl (lv_at hl 1 rfl) ?_
      refine lv_i2l S.1 S.2.1 dX7_drawnDay_12 rfl ?_
      refine lv_lmul S.1 S.2.1 dX7_drawnDay_13 ?_
      refine lv_ldc2 (v := 6151) S.1 S.2.1 S.2.2.2.1 (S.2.2.2.2 _ q976) dX7_drawnDay_14 ?_
      refine lv_iload_n S.1 S.2.1 dX7_drawnDay_17 rfl (lv_at hl 3 rfl) ?_
      refine lv_i2l S.1 S.2.1 dX7_drawnDay_18 rfl ?_
      refine lv_lmul S.1 S.2.1 dX7_drawnDay_19 ?_
      refine lv_ladd S.1 S.2.1 dX7_drawnDay_20 ?_
      refine lv_lconst (v := 1) S.1 S.2.1 dX7_drawnDay_21 (by decide) ?_
      refine lv_ladd S.1 S.2.1 dX7_drawnDay_22 ?_
      refine lv_topl (fun x4_8 ex4_8 => ?_)
      have h := nm_to ex4_8 h
      refine lv_lstore (lv' := [(4, .long x4_8), (0, .ref (a 0)), (1, .int v1), (2, .int v2), (3, .int v3)]) S.1 S.2.1 dX7_drawnDay_23 hl (by decide) rfl (fun ls hl => ?_)
      refine lv_aload_n S.1 S.2.1 dX7_drawnDay_25 rfl (lv_at hl 1 rfl) ?_
      refine gMo_late S hK hW dX7_drawnDay_26 ?_
      refine lv_iload_n S.1 S.2.1 dX7_drawnDay_29 rfl (lv_at hl 4 rfl) ?_
      refine lv_lload S.1 S.2.1 dX7_drawnDay_30 (lv_at hl 0 rfl) ?_
      refine lv_lload S.1 S.2.1 dX7_drawnDay_32 (lv_at hl 0 rfl) ?_
      refine lv_lmul S.1 S.2.1 dX7_drawnDay_34 ?_
      refine lv_ldc2 (v := 65521) S.1 S.2.1 S.2.2.2.1 (S.2.2.2.2 _ q977) dX7_drawnDay_35 ?_
      refine lv_lrem S.1 S.2.1 dX7_drawnDay_38 (by decide) ?_
      refine lv_aload_n S.1 S.2.1 dX7_drawnDay_39 rfl (lv_at hl 1 rfl) ?_
      refine gMo_told S hK hW dX7_drawnDay_40 ?_
      refine lv_iconst (v := 4) S.1 S.2.1 dX7_drawnDay_43 (by decide) ?_
      obtain ⟨hi_9, h⟩ := gI_some h
      refine lMo_told S hK hW hi_9 dX7_drawnDay_44 ?_
      refine lv_iconst (v := 1) S.1 S.2.1 dX7_drawnDay_45 (by decide) ?_
      refine lv_iadd S.1 S.2.1 dX7_drawnDay_46 ?_
      refine lv_i2l S.1 S.2.1 dX7_drawnDay_47 rfl ?_
      obtain ⟨hz_10, h⟩ := gZL_some h
      refine lv_lrem S.1 S.2.1 dX7_drawnDay_48 hz_10 ?_
      refine lv_l2i S.1 S.2.1 dX7_drawnDay_49 rfl ?_
      obtain ⟨hi_11, h⟩ := gI_some h
      refine sMo_late S hK hW hi_11 dX7_drawnDay_50 (fun H locs σ_12 eσ_12 hW => ?_)
      have h := nm_to eσ_12 h
      obtain ⟨x3_13, ex3_13, h⟩ := nm_some h
      refine lv_iinc (v := x3_13) (lv' := [(3, .int x3_13), (4, .long x4_8), (0, .ref (a 0)), (1, .int v1), (2, .int v2)]) S.1 S.2.1 dX7_drawnDay_51 hl (k := 4) rfl (by rw [ex3_13]; rfl) (by decide) rfl (fun ls hl => ?_)
      refine lv_goto (tgt := 2) S.1 S.2.1 dX7_drawnDay_54 (by decide) ?_
      exact ih v1 v2 x3_13 σ_12 _ _ _ h hW (lv_sub hl [2, 3, 4, 0] rfl)
set_option maxHeartbeats 4000000 in
set_option maxRecDepth 100000 in
theorem cMo_drawnDay (l : Launch) (D : va_G) (cs : Nat → ClassId) (a : Nat → Nat) (σ : St) (Λ : Nat → Int64) (p0 : Int32) (p1 : Int32) (N : Nat) {r : Int32} {σ' : St} (h : fMo_drawnDay N p0 p1 σ = some (r, σ')) : Ki l D cs none yX7_drawnDay cX7_drawnDay 6 (some .int) 5 125 (wMo cs a σ Λ) [.ref (a 0), .int p0, .int p1] r (wMo cs a σ' Λ) := by
  refine Ki_of (by decide +kernel) (Nat.le_of_ble_eq_true rfl) (fun p e s m below meth c A S hK hA hZ Q hQ ls hl hW => ?_)
  have hl : lv_has ls 6 [(0, .ref (a 0)), (1, .int p0), (2, .int p1)] := hl
  unfold fMo_drawnDay at h
  refine lv_iconst (v := 0) S.1 S.2.1 dX7_drawnDay_0 (by decide) ?_
  refine lv_istore_n (lv' := [(3, .int (0 : Int32)), (0, .ref (a 0)), (1, .int p0), (2, .int p1)]) S.1 S.2.1 dX7_drawnDay_1 rfl hl (by decide) rfl (fun ls hl => ?_)
  exact wMo_drawnDay_2 S hK hA hQ N p0 p1 (0 : Int32) σ _ _ _ h hW (lv_sub hl [1, 2, 3, 0] rfl)
set_option maxHeartbeats 4000000 in
set_option maxRecDepth 100000 in
theorem cMo_isSeed (l : Launch) (D : va_G) (cs : Nat → ClassId) (p0 : Int32) (N : Nat) {r : Int32} (h : fMo_isSeed N p0 = some r) : Ki l D cs none yX7_isSeed cX7_isSeed 1 (some .boolean) 1 25 [] [.int p0] r [] := by
  refine Ki_of (by decide +kernel) (Nat.le_of_ble_eq_true rfl) (fun p e s m below meth c A S hK hA hZ Q hQ ls hl hW => ?_)
  have hl : lv_has ls 1 [(0, .int p0)] := hl
  unfold fMo_isSeed at h
  refine lv_iload_n S.1 S.2.1 dX7_isSeed_0 rfl (lv_at hl 0 rfl) ?_
  refine lv_i2l S.1 S.2.1 dX7_isSeed_1 rfl ?_
  refine lv_lconst (v := 0) S.1 S.2.1 dX7_isSeed_2 (by decide) ?_
  refine lv_ldc2 (v := 9999) S.1 S.2.1 S.2.2.2.1 (S.2.2.2.2 _ q928) dX7_isSeed_3 ?_
  obtain ⟨r_1, hc_2, h⟩ := cl1_some h
  refine kS_i (As := [.long (p0.toInt64), .long (0 : Int64), .long (9999 : Int64)]) (rest := []) S hK hA (z := none) trivial [] [] hW (cMo_in l D cs (p0.toInt64) (0 : Int64) (9999 : Int64) N hc_2) lk_X7_80 q777 ⟨Nat.le_of_ble_eq_true rfl, Nat.le_of_ble_eq_true rfl⟩ rfl (Nat.le_of_ble_eq_true rfl) hl.1 dX7_isSeed_6 ⟨Nat.zero_le _, Nat.zero_le _⟩ (fun H locs hW => ?_)
  have hW : Wd D A s.heap [] H locs := hW
  obtain ⟨hb_3, h⟩ := gB_some h
  obtain rfl := pr1 h
  exact hQ _ _ _ _ dX7_isSeed_9 hb_3 hW
set_option maxHeartbeats 4000000 in
set_option maxRecDepth 100000 in
theorem wMo_drawn_24 {p : Program} {l : Launch} {e : Env} {s : State} {m : MethodId} {args : Array Value} {below : List Frame} {meth : Method} {c : Code} {A : Nat → Prop} {Q : State → Prop} {D : va_G} {cs : Nat → ClassId} {a : Nat → Nat} {Λ : Nat → Int64} {r : Int32} {σ' : St} {N : Nat} (S : Fx p m c cX7_drawn 3 s args RX7) (hK : va_K D vwCl (tyL cs) s) (hA : ∀ x, s.heap.size ≤ x → A x) (hQ : ∀ (H : Heap) (locs : List Loc) (pc : Nat) (ls : Array Slot), decode cX7_drawn pc = .ok (.ireturn, 1) → narrow .int (.int r) = .int r → Wd D A s.heap (wMo cs a σ' Λ) H locs → W p l e { frames := 6, cells := 0, slots := 0, locals := 150 } s m args below meth c H locs 0 0 Q (F0 m pc ls [.int r])) : ∀ (k0 : Int32) (σ : St) (H : Heap) (locs : List Loc) (ls : Array Slot), fMo_drawn_24 N k0 σ = some (r, σ') → Wd D A s.heap (wMo cs a σ Λ) H locs → lv_has ls 3 [] → W p l e { frames := 6, cells := 0, slots := 0, locals := 150 } s m args below meth c H locs 0 0 Q (F0 m 24 ls [.int k0]) := by
  intro k0 σ H locs ls h hW hl
  unfold fMo_drawn_24 at h
  obtain ⟨rfl, rfl⟩ := pr2 h
  exact hQ _ _ _ _ dX7_drawn_24 rfl hW
set_option maxHeartbeats 4000000 in
set_option maxRecDepth 100000 in
theorem wMo_drawn_23 {p : Program} {l : Launch} {e : Env} {s : State} {m : MethodId} {args : Array Value} {below : List Frame} {meth : Method} {c : Code} {A : Nat → Prop} {Q : State → Prop} {D : va_G} {cs : Nat → ClassId} {a : Nat → Nat} {Λ : Nat → Int64} {r : Int32} {σ' : St} {N : Nat} (S : Fx p m c cX7_drawn 3 s args RX7) (hK : va_K D vwCl (tyL cs) s) (hA : ∀ x, s.heap.size ≤ x → A x) (hQ : ∀ (H : Heap) (locs : List Loc) (pc : Nat) (ls : Array Slot), decode cX7_drawn pc = .ok (.ireturn, 1) → narrow .int (.int r) = .int r → Wd D A s.heap (wMo cs a σ' Λ) H locs → W p l e { frames := 6, cells := 0, slots := 0, locals := 150 } s m args below meth c H locs 0 0 Q (F0 m pc ls [.int r])) : ∀ (σ : St) (H : Heap) (locs : List Loc) (ls : Array Slot), fMo_drawn_23 N σ = some (r, σ') → Wd D A s.heap (wMo cs a σ Λ) H locs → lv_has ls 3 [] → W p l e { frames := 6, cells := 0, slots := 0, locals := 150 } s m args below meth c H locs 0 0 Q (F0 m 23 ls []) := by
  intro σ H locs ls h hW hl
  unfold fMo_drawn_23 at h
  refine lv_iconst (v := -1) S.1 S.2.1 dX7_drawn_23 (by decide) ?_
  exact wMo_drawn_24 S hK hA hQ (-1 : Int32) σ _ _ _ h hW (lv_sub hl [] rfl)
set_option maxHeartbeats 4000000 in
set_option maxRecDepth 100000 in
theorem cMo_drawn (l : Launch) (D : va_G) (cs : Nat → ClassId) (a : Nat → Nat) (σ : St) (Λ : Nat → Int64) (p0 : Int32) (p1 : Int32) (N : Nat) {r : Int32} {σ' : St} (h : fMo_drawn N p0 p1 σ = some (r, σ')) : Ki l D cs none yX7_drawn cX7_drawn 3 (some .int) 6 150 (wMo cs a σ Λ) [.ref (a 0), .int p0, .int p1] r (wMo cs a σ' Λ) := by
  refine Ki_of (by decide +kernel) (Nat.le_of_ble_eq_true rfl) (fun p e s m below meth c A S hK hA hZ Q hQ ls hl hW => ?_)
  have hl : lv_has ls 3 [(0, .ref (a 0)), (1, .int p0), (2, .int p1)] := hl
  unfold fMo_drawn at h
  refine lv_iload_n S.1 S.2.1 dX7_drawn_0 rfl (lv_at hl 1 rfl) ?_
  obtain ⟨r_1, hc_2, h⟩ := cl1_some h
  refine kS_i (As := [.int p0]) (rest := []) S hK hA (z := none) trivial [] (wMo cs a σ Λ) hW (cMo_isSeed l D cs p0 N hc_2) lk_X7_242 q969 ⟨Nat.le_of_ble_eq_true rfl, Nat.le_of_ble_eq_true rfl⟩ rfl (Nat.le_of_ble_eq_true rfl) hl.1 dX7_drawn_1 ⟨Nat.zero_le _, Nat.zero_le _⟩ (fun H locs hW => ?_)
  have hW : Wd D A s.heap (wMo cs a σ Λ) H locs := hW
  refine lv_if_eq (tgt := 23) S.1 S.2.1 dX7_drawn_4 (by decide) (fun c_3 => ?_) (fun c_3 => ?_)
  · have h := ite_t c_3 h
    exact wMo_drawn_23 S hK hA hQ σ _ _ _ h hW (lv_sub hl [] rfl)
  · have h := ite_f c_3 h
    refine lv_iload_n S.1 S.2.1 dX7_drawn_7 rfl (lv_at hl 2 rfl) ?_
    obtain ⟨r_4, hc_5, h⟩ := cl1_some h
    refine kS_i (As := [.int p1]) (rest := []) S hK hA (z := none) trivial [] (wMo cs a σ Λ) hW (cMo_isRule l D cs p1 N hc_5) lk_X7_183 q840 ⟨Nat.le_of_ble_eq_true rfl, Nat.le_of_ble_eq_true rfl⟩ rfl (Nat.le_of_ble_eq_true rfl) hl.1 dX7_drawn_8 ⟨Nat.zero_le _, Nat.zero_le _⟩ (fun H locs hW => ?_)
    have hW : Wd D A s.heap (wMo cs a σ Λ) H locs := hW
    refine lv_if_eq (tgt := 23) S.1 S.2.1 dX7_drawn_11 (by decide) (fun c_6 => ?_) (fun c_6 => ?_)
    · have h := ite_t c_6 h
      exact wMo_drawn_23 S hK hA hQ σ _ _ _ h hW (lv_sub hl [] rfl)
    · have h := ite_f c_6 h
      refine lv_aload_n S.1 S.2.1 dX7_drawn_14 rfl (lv_at hl 0 rfl) ?_
      refine lv_iload_n S.1 S.2.1 dX7_drawn_15 rfl (lv_at hl 1 rfl) ?_
      refine lv_iload_n S.1 S.2.1 dX7_drawn_16 rfl (lv_at hl 2 rfl) ?_
      obtain ⟨r_7, σ_8, hc_9, h⟩ := cl2_some h
      have hW := kw_same hW
      refine kV_i (As := [.int p0, .int p1]) (rest := []) S hK hA (z := none) trivial [] [] hW (cMo_drawnDay l D cs a σ Λ p0 p1 N hc_9) (ci := 6) rfl rfl lk_X7_245 q973 q38 ⟨Nat.le_of_ble_eq_true rfl, Nat.le_of_ble_eq_true rfl⟩ rfl (Nat.le_of_ble_eq_true rfl) hl.1 dX7_drawn_17 ⟨Nat.zero_le _, Nat.zero_le _⟩ (fun H locs hW => ?_)
      have hW : Wd D A s.heap (wMo cs a σ_8 Λ) H locs := kw_back hW
      refine lv_goto (tgt := 24) S.1 S.2.1 dX7_drawn_20 (by decide) ?_
      exact wMo_drawn_24 S hK hA hQ r_7 σ_8 _ _ _ h hW (lv_sub hl [] rfl)
set_option maxHeartbeats 4000000 in
set_option maxRecDepth 100000 in
theorem wMo_ten_14 {p : Program} {l : Launch} {e : Env} {s : State} {m : MethodId} {args : Array Value} {below : List Frame} {meth : Method} {c : Code} {A : Nat → Prop} {Q : State → Prop} {D : va_G} {cs : Nat → ClassId} {a : Nat → Nat} {Λ : Nat → Int64} {r : Int32} {σ' : St} {N : Nat} (S : Fx p m c cX7_ten 5 s args RX7) (hK : va_K D vwCl (tyL cs) s) (hA : ∀ x, s.heap.size ≤ x → A x) (hQ : ∀ (H : Heap) (locs : List Loc) (pc : Nat) (ls : Array Slot), decode cX7_ten pc = .ok (.ireturn, 1) → narrow .int (.int r) = .int r → Wd D A s.heap (wMo cs a σ' Λ) H locs → W p l e { frames := 6, cells := 0, slots := 0, locals := 150 } s m args below meth c H locs 0 0 Q (F0 m pc ls [.int r])) : ∀ (σ : St) (H : Heap) (locs : List Loc) (ls : Array Slot), fMo_ten_14 N σ = some (r, σ') → Wd D A s.heap (wMo cs a σ Λ) H locs → lv_has ls 5 [] → W p l e { frames := 6, cells := 0, slots := 0, locals := 150 } s m args below meth c H locs 0 0 Q (F0 m 14 ls []) := by
  intro σ H locs ls h hW hl
  unfold fMo_ten_14 at h
  refine lv_iconst (v := -1) S.1 S.2.1 dX7_ten_14 (by decide) ?_
  obtain ⟨rfl, rfl⟩ := pr2 h
  exact hQ _ _ _ _ dX7_ten_15 rfl hW
set_option maxHeartbeats 4000000 in
set_option maxRecDepth 100000 in
theorem wMo_ten_50 {p : Program} {l : Launch} {e : Env} {s : State} {m : MethodId} {args : Array Value} {below : List Frame} {meth : Method} {c : Code} {A : Nat → Prop} {Q : State → Prop} {D : va_G} {cs : Nat → ClassId} {a : Nat → Nat} {Λ : Nat → Int64} {r : Int32} {σ' : St} {N : Nat} (S : Fx p m c cX7_ten 5 s args RX7) (hK : va_K D vwCl (tyL cs) s) (hA : ∀ x, s.heap.size ≤ x → A x) (hQ : ∀ (H : Heap) (locs : List Loc) (pc : Nat) (ls : Array Slot), decode cX7_ten pc = .ok (.ireturn, 1) → narrow .int (.int r) = .int r → Wd D A s.heap (wMo cs a σ' Λ) H locs → W p l e { frames := 6, cells := 0, slots := 0, locals := 150 } s m args below meth c H locs 0 0 Q (F0 m pc ls [.int r])) {k_21 : Int32 → Int32 → Int32 → Int32 → St → Option (Int32 × St)} (hk_21 : ∀ (v1 : Int32) (v2 : Int32) (v3 : Int32) (v4 : Int32) (σ : St) (H : Heap) (locs : List Loc) (ls : Array Slot), k_21 v1 v2 v3 v4 σ = some (r, σ') → Wd D A s.heap (wMo cs a σ Λ) H locs → lv_has ls 5 [(0, .ref (a 0)), (1, .int v1), (2, .int v2), (3, .int v3), (4, .int v4)] → W p l e { frames := 6, cells := 0, slots := 0, locals := 150 } s m args below meth c H locs 0 0 Q (F0 m 21 ls [])) : ∀ (v1 : Int32) (v2 : Int32) (v4 : Int32) (k0 : Int32) (k1 : Int32) (σ : St) (H : Heap) (locs : List Loc) (ls : Array Slot), fMo_ten_50 k_21 N v1 v2 v4 k0 k1 σ = some (r, σ') → Wd D A s.heap (wMo cs a σ Λ) H locs → lv_has ls 5 [(0, .ref (a 0)), (1, .int v1), (2, .int v2), (4, .int v4)] → W p l e { frames := 6, cells := 0, slots := 0, locals := 150 } s m args below meth c H locs 0 0 Q (F0 m 50 ls [.int k1, .int k0]) := by
  intro v1 v2 v4 k0 k1 σ H locs ls h hW hl
  unfold fMo_ten_50 at h
  refine lv_iadd S.1 S.2.1 dX7_ten_50 ?_
  refine lv_topi (fun x3_1 ex3_1 => ?_)
  have h := nm_to ex3_1 h
  refine lv_istore_n (lv' := [(3, .int x3_1), (0, .ref (a 0)), (1, .int v1), (2, .int v2), (4, .int v4)]) S.1 S.2.1 dX7_ten_51 rfl hl (by decide) rfl (fun ls hl => ?_)
  obtain ⟨x4_2, ex4_2, h⟩ := nm_some h
  refine lv_iinc (v := x4_2) (lv' := [(4, .int x4_2), (3, .int x3_1), (0, .ref (a 0)), (1, .int v1), (2, .int v2)]) S.1 S.2.1 dX7_ten_52 hl (k := 4) rfl (by rw [ex4_2]; rfl) (by decide) rfl (fun ls hl => ?_)
  refine lv_goto (tgt := 21) S.1 S.2.1 dX7_ten_55 (by decide) ?_
  exact hk_21 v1 v2 x3_1 x4_2 σ _ _ _ h hW (lv_sub hl [2, 3, 4, 1, 0] rfl)
set_option maxHeartbeats 4000000 in
set_option maxRecDepth 100000 in
theorem wMo_ten_21 {p : Program} {l : Launch} {e : Env} {s : State} {m : MethodId} {args : Array Value} {below : List Frame} {meth : Method} {c : Code} {A : Nat → Prop} {Q : State → Prop} {D : va_G} {cs : Nat → ClassId} {a : Nat → Nat} {Λ : Nat → Int64} {r : Int32} {σ' : St} {N : Nat} (S : Fx p m c cX7_ten 5 s args RX7) (hK : va_K D vwCl (tyL cs) s) (hA : ∀ x, s.heap.size ≤ x → A x) (hQ : ∀ (H : Heap) (locs : List Loc) (pc : Nat) (ls : Array Slot), decode cX7_ten pc = .ok (.ireturn, 1) → narrow .int (.int r) = .int r → Wd D A s.heap (wMo cs a σ' Λ) H locs → W p l e { frames := 6, cells := 0, slots := 0, locals := 150 } s m args below meth c H locs 0 0 Q (F0 m pc ls [.int r])) : ∀ (n_21 : Nat) (v1 : Int32) (v2 : Int32) (v3 : Int32) (v4 : Int32) (σ : St) (H : Heap) (locs : List Loc) (ls : Array Slot), fMo_ten_21 N n_21 v1 v2 v3 v4 σ = some (r, σ') → Wd D A s.heap (wMo cs a σ Λ) H locs → lv_has ls 5 [(0, .ref (a 0)), (1, .int v1), (2, .int v2), (3, .int v3), (4, .int v4)] → W p l e { frames := 6, cells := 0, slots := 0, locals := 150 } s m args below meth c H locs 0 0 Q (F0 m 21 ls []) := by
  intro n_21
  induction n_21 with
  | zero =>
    intro v1 v2 v3 v4 σ H locs ls h
    cases h
  | succ n_21 ih =>
    intro v1 v2 v3 v4 σ H locs ls h hW hl
    unfold fMo_ten_21 at h
    refine lv_iload S.1 S.2.1 dX7_ten_21 (lv_at hl 4 rfl) ?_
    refine lv_bipush (v := 10) S.1 S.2.1 dX7_ten_23 (by decide) ?_
    refine lv_icmp_ge (tgt := 58) S.1 S.2.1 dX7_ten_25 (by decide) (fun c_3 => ?_) (fun c_3 => ?_)
    · have h := ite_t c_3 h
      refine lv_iload_n S.1 S.2.1 dX7_ten_58 rfl (lv_at hl 3 rfl) ?_
      obtain ⟨rfl, rfl⟩ := pr2 h
      exact hQ _ _ _ _ dX7_ten_59 rfl hW
    · have h := ite_f c_3 h
      refine lv_iload_n S.1 S.2.1 dX7_ten_28 rfl (lv_at hl 3 rfl) ?_
      refine lv_aload_n S.1 S.2.1 dX7_ten_29 rfl (lv_at hl 0 rfl) ?_
      refine lv_iload_n S.1 S.2.1 dX7_ten_30 rfl (lv_at hl 1 rfl) ?_
      refine lv_iload S.1 S.2.1 dX7_ten_31 (lv_at hl 4 rfl) ?_
      refine lv_iadd S.1 S.2.1 dX7_ten_33 ?_
      refine lv_sipush (v := 10000) S.1 S.2.1 dX7_ten_34 (by decide) ?_
      refine lv_irem S.1 S.2.1 dX7_ten_37 (by decide) ?_
      refine lv_iload_n S.1 S.2.1 dX7_ten_38 rfl (lv_at hl 2 rfl) ?_
      obtain ⟨r_4, σ_5, hc_6, h⟩ := cl2_some h
      have hW := kw_same hW
      refine kV_i (As := [.int ((v1 + v4) - (v1 + v4) / (10000 : Int32) * (10000 : Int32)), .int v2]) (rest := [.int v3]) S hK hA (z := none) trivial [] [] hW (cMo_drawnDay l D cs a σ Λ ((v1 + v4) - (v1 + v4) / (10000 : Int32) * (10000 : Int32)) v2 N hc_6) (ci := 6) rfl rfl lk_X7_245 q973 q38 ⟨Nat.le_of_ble_eq_true rfl, Nat.le_of_ble_eq_true rfl⟩ rfl (Nat.le_of_ble_eq_true rfl) hl.1 dX7_ten_39 ⟨Nat.zero_le _, Nat.zero_le _⟩ (fun H locs hW => ?_)
      have hW : Wd D A s.heap (wMo cs a σ_5 Λ) H locs := kw_back hW
      refine lv_if_ne (tgt := 49) S.1 S.2.1 dX7_ten_42 (by decide) (fun c_7 => ?_) (fun c_7 => ?_)
      · have h := ite_f c_7 h
        refine lv_iconst (v := 0) S.1 S.2.1 dX7_ten_49 (by decide) ?_
        exact wMo_ten_50 S hK hA hQ ih v1 v2 v4 v3 (0 : Int32) σ_5 _ _ _ h hW (lv_sub hl [0, 1, 2, 4] rfl)
      · have h := ite_t c_7 h
        refine lv_iconst (v := 1) S.1 S.2.1 dX7_ten_45 (by decide) ?_
        refine lv_goto (tgt := 50) S.1 S.2.1 dX7_ten_46 (by decide) ?_
        exact wMo_ten_50 S hK hA hQ ih v1 v2 v4 v3 (1 : Int32) σ_5 _ _ _ h hW (lv_sub hl [0, 1, 2, 4] rfl)
set_option maxHeartbeats 4000000 in
set_option maxRecDepth 100000 in
theorem cMo_ten (l : Launch) (D : va_G) (cs : Nat → ClassId) (a : Nat → Nat) (σ : St) (Λ : Nat → Int64) (p0 : Int32) (p1 : Int32) (N : Nat) {r : Int32} {σ' : St} (h : fMo_ten N p0 p1 σ = some (r, σ')) : Ki l D cs none yX7_ten cX7_ten 5 (some .int) 6 150 (wMo cs a σ Λ) [.ref (a 0), .int p0, .int p1] r (wMo cs a σ' Λ) := by
  refine Ki_of (by decide +kernel) (Nat.le_of_ble_eq_true rfl) (fun p e s m below meth c A S hK hA hZ Q hQ ls hl hW => ?_)
  have hl : lv_has ls 5 [(0, .ref (a 0)), (1, .int p0), (2, .int p1)] := hl
  unfold fMo_ten at h
  refine lv_iload_n S.1 S.2.1 dX7_ten_0 rfl (lv_at hl 1 rfl) ?_
  obtain ⟨r_8, hc_9, h⟩ := cl1_some h
  refine kS_i (As := [.int p0]) (rest := []) S hK hA (z := none) trivial [] (wMo cs a σ Λ) hW (cMo_isSeed l D cs p0 N hc_9) lk_X7_242 q969 ⟨Nat.le_of_ble_eq_true rfl, Nat.le_of_ble_eq_true rfl⟩ rfl (Nat.le_of_ble_eq_true rfl) hl.1 dX7_ten_1 ⟨Nat.zero_le _, Nat.zero_le _⟩ (fun H locs hW => ?_)
  have hW : Wd D A s.heap (wMo cs a σ Λ) H locs := hW
  refine lv_if_eq (tgt := 14) S.1 S.2.1 dX7_ten_4 (by decide) (fun c_10 => ?_) (fun c_10 => ?_)
  · have h := ite_t c_10 h
    exact wMo_ten_14 S hK hA hQ σ _ _ _ h hW (lv_sub hl [] rfl)
  · have h := ite_f c_10 h
    refine lv_iload_n S.1 S.2.1 dX7_ten_7 rfl (lv_at hl 2 rfl) ?_
    obtain ⟨r_11, hc_12, h⟩ := cl1_some h
    refine kS_i (As := [.int p1]) (rest := []) S hK hA (z := none) trivial [] (wMo cs a σ Λ) hW (cMo_isRule l D cs p1 N hc_12) lk_X7_183 q840 ⟨Nat.le_of_ble_eq_true rfl, Nat.le_of_ble_eq_true rfl⟩ rfl (Nat.le_of_ble_eq_true rfl) hl.1 dX7_ten_8 ⟨Nat.zero_le _, Nat.zero_le _⟩ (fun H locs hW => ?_)
    have hW : Wd D A s.heap (wMo cs a σ Λ) H locs := hW
    refine lv_if_ne (tgt := 16) S.1 S.2.1 dX7_ten_11 (by decide) (fun c_13 => ?_) (fun c_13 => ?_)
    · have h := ite_f c_13 h
      refine lv_iconst (v := 0) S.1 S.2.1 dX7_ten_16 (by decide) ?_
      refine lv_istore_n (lv' := [(3, .int (0 : Int32)), (0, .ref (a 0)), (1, .int p0), (2, .int p1)]) S.1 S.2.1 dX7_ten_17 rfl hl (by decide) rfl (fun ls hl => ?_)
      refine lv_iconst (v := 0) S.1 S.2.1 dX7_ten_18 (by decide) ?_
      refine lv_istore (lv' := [(4, .int (0 : Int32)), (3, .int (0 : Int32)), (0, .ref (a 0)), (1, .int p0), (2, .int p1)]) S.1 S.2.1 dX7_ten_19 hl (by decide) rfl (fun ls hl => ?_)
      exact wMo_ten_21 S hK hA hQ N p0 p1 (0 : Int32) (0 : Int32) σ _ _ _ h hW (lv_sub hl [2, 3, 4, 1, 0] rfl)
    · have h := ite_t c_13 h
      exact wMo_ten_14 S hK hA hQ σ _ _ _ h hW (lv_sub hl [] rfl)
set_option maxHeartbeats 4000000 in
set_option maxRecDepth 100000 in
theorem cMo_keep (l : Launch) (D : va_G) (cs : Nat → ClassId) (a : Nat → Nat) (σ : St) (Λ : Nat → Int64) (N : Nat) {r : Int32} {σ' : St} (h : fMo_keep N σ = some (r, σ')) : Ki l D cs none yX7_keep cX7_keep 1 (some .int) 0 0 (wMo cs a σ Λ) [.ref (a 0)] r (wMo cs a σ' Λ) := by
  refine Ki_of (by decide +kernel) (Nat.le_of_ble_eq_true rfl) (fun p e s m below meth c A S hK hA hZ Q hQ ls hl hW => ?_)
  have hl : lv_has ls 1 [(0, .ref (a 0))] := hl
  unfold fMo_keep at h
  refine lv_aload_n S.1 S.2.1 dX7_keep_0 rfl (lv_at hl 0 rfl) ?_
  refine gMo_kept S hK hW dX7_keep_1 ?_
  refine lv_iconst (v := 2) S.1 S.2.1 dX7_keep_4 (by decide) ?_
  refine lv_icmp_ne (tgt := 11) S.1 S.2.1 dX7_keep_5 (by decide) (fun c_1 => ?_) (fun c_1 => ?_)
  · have h := ite_f c_1 h
    refine lv_aload_n S.1 S.2.1 dX7_keep_11 rfl (lv_at hl 0 rfl) ?_
    refine gMo_keptHolders S hK hW dX7_keep_12 ?_
    refine lv_aload_n S.1 S.2.1 dX7_keep_15 rfl (lv_at hl 0 rfl) ?_
    refine gMo_kept S hK hW dX7_keep_16 ?_
    refine lv_aload_n S.1 S.2.1 dX7_keep_19 rfl (lv_at hl 0 rfl) ?_
    refine gMo_holders S hK hW dX7_keep_20 ?_
    obtain ⟨hi_2, h⟩ := gI_some h
    refine sMo_keptHolders S hK hW hi_2 dX7_keep_23 (fun H locs σ_3 eσ_3 hW => ?_)
    have h := nm_to eσ_3 h
    refine lv_aload_n S.1 S.2.1 dX7_keep_24 rfl (lv_at hl 0 rfl) ?_
    refine lv_dup S.1 S.2.1 dX7_keep_25 rfl ?_
    refine gMo_kept S hK hW dX7_keep_26 ?_
    refine lv_iconst (v := 1) S.1 S.2.1 dX7_keep_29 (by decide) ?_
    refine lv_iadd S.1 S.2.1 dX7_keep_30 ?_
    refine pMo_kept S hK hW dX7_keep_31 (fun H locs σ_4 eσ_4 hW => ?_)
    have h := nm_to eσ_4 h
    refine lv_aload_n S.1 S.2.1 dX7_keep_34 rfl (lv_at hl 0 rfl) ?_
    refine gMo_kept S hK hW dX7_keep_35 ?_
    obtain ⟨rfl, rfl⟩ := pr2 h
    exact hQ _ _ _ _ dX7_keep_38 rfl hW
  · have h := ite_t c_1 h
    refine lv_bipush (v := -3) S.1 S.2.1 dX7_keep_8 (by decide) ?_
    obtain ⟨rfl, rfl⟩ := pr2 h
    exact hQ _ _ _ _ dX7_keep_10 rfl hW
