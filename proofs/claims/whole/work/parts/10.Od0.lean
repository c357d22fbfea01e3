set_option maxHeartbeats 4000000 in
set_option maxRecDepth 100000 in
theorem wOd_power_5 {p : Program} {l : Launch} {e : Env} {s : State} {m : MethodId} {args : Array Value} {below : List Frame} {meth : Method} {c : Code} {A : Nat → Prop} {Q : State → Prop} {D : va_G} {cs : Nat → ClassId} {r : Int64} {N : Nat} (S : Fx p m c cX2_power 5 s args RX2) (hK : va_K D vwCl (tyL cs) s) (hA : ∀ x, s.heap.size ≤ x → A x) (hQ : ∀ (H : Heap) (locs : List Loc) (pc : Nat) (ls : Array Slot), decode cX2_power pc = .ok (.lreturn, 1) → Wd D A s.heap [] H locs → W p l e { frames := 0, cells := 0, slots := 0, locals := 0 } s m args below meth c H locs 0 0 Q (F0 m pc ls [.long r])) : ∀ (n_5 : Nat) (v0 : Int32) (v1 : Int32) (v2 : Int64) (v4 : Int32) (H : Heap) (locs : List Loc) (ls : Array Slot), fOd_power_5 N n_5 v0 v1 v2 v4 = some r → Wd D A s.heap [] H locs → lv_has ls 5 [(0, .int v0), (1, .int v1), (2, .long v2), (4, .int v4)] → W p l e { frames := 0, cells := 0, slots := 0, locals := 0 } s m args below meth c H locs 0 0 Q (F0 m 5 ls []) := by
  intro n_5
  induction n_5 with
  | zero =>
    intro v0 v1 v2 v4 H locs ls h
    cases h
  | succ n_5 ih =>
    intro v0 v1 v2 v4 H locs ls h hW hl
    unfold fOd_power_5 at h
    refine lv_iload S.1 S.2.1 dX2_power_5 (lv_at hl 3 rfl) ?_
    refine lv_iload_n S.1 S.2.1 dX2_power_7 rfl (lv_at hl 1 rfl) ?_
    refine lv_icmp_ge (tgt := 22) S.1 S.2.1 dX2_power_8 (by decide) (fun c_1 => ?_) (fun c_1 => ?_)
    · have h := ite_t c_1 h
      refine lv_lload_n S.1 S.2.1 dX2_power_22 rfl (lv_at hl 2 rfl) ?_
      obtain rfl := pr1 h
      exact hQ _ _ _ _ dX2_power_23 hW
    · have h := ite_f c_1 h
      refine lv_lload_n S.1 S.2.1 dX2_power_11 rfl (lv_at hl 2 rfl) ?_
      refine lv_iload_n S.1 S.2.1 dX2_power_12 rfl (lv_at hl 0 rfl) ?_
      refine lv_i2l S.1 S.2.1 dX2_power_13 rfl ?_
      refine lv_lmul S.1 S.2.1 dX2_power_14 ?_
      refine lv_topl (fun x2_2 ex2_2 => ?_)
      have h := nm_to ex2_2 h
      refine lv_lstore_n (lv' := [(2, .long x2_2), (0, .int v0), (1, .int v1), (4, .int v4)]) S.1 S.2.1 dX2_power_15 rfl hl (by decide) rfl (fun ls hl => ?_)
      obtain ⟨x4_3, ex4_3, h⟩ := nm_some h
      refine lv_iinc (v := x4_3) (lv' := [(4, .int x4_3), (2, .long x2_2), (0, .int v0), (1, .int v1)]) S.1 S.2.1 dX2_power_16 hl (k := 3) rfl (by rw [ex4_3]; rfl) (by decide) rfl (fun ls hl => ?_)
      refine lv_goto (tgt := 5) S.1 S.2.1 dX2_power_19 (by decide) ?_
      exact ih v0 v1 x2_2 x4_3 _ _ _ h hW (lv_sub hl [2, 3, 1, 0] rfl)
set_option maxHeartbeats 4000000 in
set_option maxRecDepth 100000 in
theorem cOd_power (l : Launch) (D : va_G) (cs : Nat → ClassId) (p0 : Int32) (p1 : Int32) (N : Nat) {r : Int64} (h : fOd_power N p0 p1 = some r) : Kl l D cs none yX2_power cX2_power 5 (some .long) 0 0 [] [.int p0, .int p1] r [] := by
  refine Kl_of (by decide +kernel) (Nat.le_of_ble_eq_true rfl) (fun p e s m below meth c A S hK hA hZ Q hQ ls hl hW => ?_)
  have hl : lv_has ls 5 [(0, .int p0), (1, .int p1)] := hl
  unfold fOd_power at h
  refine lv_lconst (v := 1) S.1 S.2.1 dX2_power_0 (by decide) ?_
  refine lv_lstore_n (lv' := [(2, .long (1 : Int64)), (0, .int p0), (1, .int p1)]) S.1 S.2.1 dX2_power_1 rfl hl (by decide) rfl (fun ls hl => ?_)
  refine lv_iconst (v := 0) S.1 S.2.1 dX2_power_2 (by decide) ?_
  refine lv_istore (lv' := [(4, .int (0 : Int32)), (2, .long (1 : Int64)), (0, .int p0), (1, .int p1)]) S.1 S.2.1 dX2_power_3 hl (by decide) rfl (fun ls hl => ?_)
  exact wOd_power_5 S hK hA hQ N p0 p1 (1 : Int64) (0 : Int32) _ _ _ h hW (lv_sub hl [2, 3, 1, 0] rfl)
set_option maxHeartbeats 4000000 in
set_option maxRecDepth 100000 in
theorem wOd_noMoreThan_66 {p : Program} {l : Launch} {e : Env} {s : State} {m : MethodId} {args : Array Value} {below : List Frame} {meth : Method} {c : Code} {A : Nat → Prop} {Q : State → Prop} {D : va_G} {cs : Nat → ClassId} {r : Int64} {N : Nat} (S : Fx p m c cX2_noMoreThan 8 s args RX2) (hK : va_K D vwCl (tyL cs) s) (hA : ∀ x, s.heap.size ≤ x → A x) (hQ : ∀ (H : Heap) (locs : List Loc) (pc : Nat) (ls : Array Slot), decode cX2_noMoreThan pc = .ok (.lreturn, 1) → Wd D A s.heap [] H locs → W p l e { frames := 1, cells := 0, slots := 0, locals := 24 } s m args below meth c H locs 0 0 Q (F0 m pc ls [.long r])) : ∀ (v3 : Int64) (H : Heap) (locs : List Loc) (ls : Array Slot), fOd_noMoreThan_66 N v3 = some r → Wd D A s.heap [] H locs → lv_has ls 8 [(3, .long v3)] → W p l e { frames := 1, cells := 0, slots := 0, locals := 24 } s m args below meth c H locs 0 0 Q (F0 m 66 ls []) := by
  intro v3 H locs ls h hW hl
  unfold fOd_noMoreThan_66 at h
  refine lv_lload_n S.1 S.2.1 dX2_noMoreThan_66 rfl (lv_at hl 0 rfl) ?_
  obtain rfl := pr1 h
  exact hQ _ _ _ _ dX2_noMoreThan_67 hW
set_option maxHeartbeats 4000000 in
set_option maxRecDepth 100000 in
theorem wOd_noMoreThan_8 {p : Program} {l : Launch} {e : Env} {s : State} {m : MethodId} {args : Array Value} {below : List Frame} {meth : Method} {c : Code} {A : Nat → Prop} {Q : State → Prop} {D : va_G} {cs : Nat → ClassId} {r : Int64} {N : Nat} (S : Fx p m c cX2_noMoreThan 8 s args RX2) (hK : va_K D vwCl (tyL cs) s) (hA : ∀ x, s.heap.size ≤ x → A x) (hQ : ∀ (H : Heap) (locs : List Loc) (pc : Nat) (ls : Array Slot), decode cX2_noMoreThan pc = .ok (.lreturn, 1) → Wd D A s.heap [] H locs → W p l e { frames := 1, cells := 0, slots := 0, locals := 24 } s m args below meth c H locs 0 0 Q (F0 m pc ls [.long r])) : ∀ (n_8 : Nat) (v0 : Int32) (v1 : Int32) (v2 : Int32) (v3 : Int64) (v5 : Int64) (v7 : Int32) (H : Heap) (locs : List Loc) (ls : Array Slot), fOd_noMoreThan_8 N n_8 v0 v1 v2 v3 v5 v7 = some r → Wd D A s.heap [] H locs → lv_has ls 8 [(0, .int v0), (1, .int v1), (2, .int v2), (3, .long v3), (5, .long v5), (7, .int v7)] → W p l e { frames := 1, cells := 0, slots := 0, locals := 24 } s m args below meth c H locs 0 0 Q (F0 m 8 ls []) := by
  intro n_8
  induction n_8 with
  | zero =>
    intro v0 v1 v2 v3 v5 v7 H locs ls h
    cases h
  | succ n_8 ih =>
    intro v0 v1 v2 v3 v5 v7 H locs ls h hW hl
    unfold fOd_noMoreThan_8 at h
    refine lv_iload S.1 S.2.1 dX2_noMoreThan_8 (lv_at hl 5 rfl) ?_
    refine lv_iload_n S.1 S.2.1 dX2_noMoreThan_10 rfl (lv_at hl 0 rfl) ?_
    refine lv_icmp_gt (tgt := 66) S.1 S.2.1 dX2_noMoreThan_11 (by decide) (fun c_1 => ?_) (fun c_1 => ?_)
    · have h := ite_t c_1 h
      exact wOd_noMoreThan_66 S hK hA hQ v3 _ _ _ h hW (lv_sub hl [3] rfl)
    · have h := ite_f c_1 h
      refine lv_iload S.1 S.2.1 dX2_noMoreThan_14 (lv_at hl 5 rfl) ?_
      refine lv_iload_n S.1 S.2.1 dX2_noMoreThan_16 rfl (lv_at hl 1 rfl) ?_
      refine lv_icmp_gt (tgt := 66) S.1 S.2.1 dX2_noMoreThan_17 (by decide) (fun c_2 => ?_) (fun c_2 => ?_)
      · have h := ite_t c_2 h
        exact wOd_noMoreThan_66 S hK hA hQ v3 _ _ _ h hW (lv_sub hl [3] rfl)
      · have h := ite_f c_2 h
        refine lv_lload_n S.1 S.2.1 dX2_noMoreThan_20 rfl (lv_at hl 3 rfl) ?_
        refine lv_lload S.1 S.2.1 dX2_noMoreThan_21 (lv_at hl 4 rfl) ?_
        refine lv_iload_n S.1 S.2.1 dX2_noMoreThan_23 rfl (lv_at hl 2 rfl) ?_
        refine lv_iload S.1 S.2.1 dX2_noMoreThan_24 (lv_at hl 5 rfl) ?_
        obtain ⟨r_3, hc_4, h⟩ := cl1_some h
        refine kS_l (As := [.int v2, .int v7]) (rest := [.long v5, .long v3]) S hK hA (z := none) trivial [] [] hW (cOd_power l D cs v2 v7 N hc_4) lk_X2_7 q614 ⟨Nat.le_of_ble_eq_true rfl, Nat.le_of_ble_eq_true rfl⟩ rfl (Nat.le_of_ble_eq_true rfl) hl.1 dX2_noMoreThan_26 ⟨Nat.zero_le _, Nat.zero_le _⟩ (fun H locs hW => ?_)
        have hW : Wd D A s.heap [] H locs := hW
        refine lv_lmul S.1 S.2.1 dX2_noMoreThan_29 ?_
        refine lv_bipush (v := 10) S.1 S.2.1 dX2_noMoreThan_30 (by decide) ?_
        refine lv_iload_n S.1 S.2.1 dX2_noMoreThan_32 rfl (lv_at hl 2 rfl) ?_
        refine lv_isub S.1 S.2.1 dX2_noMoreThan_33 ?_
        refine lv_iload_n S.1 S.2.1 dX2_noMoreThan_34 rfl (lv_at hl 0 rfl) ?_
        refine lv_iload S.1 S.2.1 dX2_noMoreThan_35 (lv_at hl 5 rfl) ?_
        refine lv_isub S.1 S.2.1 dX2_noMoreThan_37 ?_
        obtain ⟨r_5, hc_6, h⟩ := cl1_some h
        refine kS_l (As := [.int ((10 : Int32) - v2), .int (v0 - v7)]) (rest := [.long (v5 * r_3), .long v3]) S hK hA (z := none) trivial [] [] hW (cOd_power l D cs ((10 : Int32) - v2) (v0 - v7) N hc_6) lk_X2_7 q614 ⟨Nat.le_of_ble_eq_true rfl, Nat.le_of_ble_eq_true rfl⟩ rfl (Nat.le_of_ble_eq_true rfl) hl.1 dX2_noMoreThan_38 ⟨Nat.zero_le _, Nat.zero_le _⟩ (fun H locs hW => ?_)
        have hW : Wd D A s.heap [] H locs := hW
        refine lv_lmul S.1 S.2.1 dX2_noMoreThan_41 ?_
        refine lv_ladd S.1 S.2.1 dX2_noMoreThan_42 ?_
        refine lv_topl (fun x3_7 ex3_7 => ?_)
        have h := nm_to ex3_7 h
        refine lv_lstore_n (lv' := [(3, .long x3_7), (0, .int v0), (1, .int v1), (2, .int v2), (5, .long v5), (7, .int v7)]) S.1 S.2.1 dX2_noMoreThan_43 rfl hl (by decide) rfl (fun ls hl => ?_)
        refine lv_lload S.1 S.2.1 dX2_noMoreThan_44 (lv_at hl 4 rfl) ?_
        refine lv_iload_n S.1 S.2.1 dX2_noMoreThan_46 rfl (lv_at hl 1 rfl) ?_
        refine lv_iload S.1 S.2.1 dX2_noMoreThan_47 (lv_at hl 5 rfl) ?_
        refine lv_isub S.1 S.2.1 dX2_noMoreThan_49 ?_
        refine lv_i2l S.1 S.2.1 dX2_noMoreThan_50 rfl ?_
        refine lv_lmul S.1 S.2.1 dX2_noMoreThan_51 ?_
        refine lv_iload S.1 S.2.1 dX2_noMoreThan_52 (lv_at hl 5 rfl) ?_
        refine lv_iconst (v := 1) S.1 S.2.1 dX2_noMoreThan_54 (by decide) ?_
        refine lv_iadd S.1 S.2.1 dX2_noMoreThan_55 ?_
        refine lv_i2l S.1 S.2.1 dX2_noMoreThan_56 rfl ?_
        obtain ⟨hz_8, h⟩ := gZL_some h
        refine lv_ldiv S.1 S.2.1 dX2_noMoreThan_57 hz_8 ?_
        refine lv_topl (fun x5_9 ex5_9 => ?_)
        have h := nm_to ex5_9 h
        refine lv_lstore (lv' := [(5, .long x5_9), (3, .long x3_7), (0, .int v0), (1, .int v1), (2, .int v2), (7, .int v7)]) S.1 S.2.1 dX2_noMoreThan_58 hl (by decide) rfl (fun ls hl => ?_)
        obtain ⟨x7_10, ex7_10, h⟩ := nm_some h
        refine lv_iinc (v := x7_10) (lv' := [(7, .int x7_10), (5, .long x5_9), (3, .long x3_7), (0, .int v0), (1, .int v1), (2, .int v2)]) S.1 S.2.1 dX2_noMoreThan_60 hl (k := 5) rfl (by rw [ex7_10]; rfl) (by decide) rfl (fun ls hl => ?_)
        refine lv_goto (tgt := 8) S.1 S.2.1 dX2_noMoreThan_63 (by decide) ?_
        exact ih v0 v1 v2 x3_7 x5_9 x7_10 _ _ _ h hW (lv_sub hl [3, 4, 5, 2, 1, 0] rfl)
set_option maxHeartbeats 4000000 in
set_option maxRecDepth 100000 in
theorem cOd_noMoreThan (l : Launch) (D : va_G) (cs : Nat → ClassId) (p0 : Int32) (p1 : Int32) (p2 : Int32) (N : Nat) {r : Int64} (h : fOd_noMoreThan N p0 p1 p2 = some r) : Kl l D cs none yX2_noMoreThan cX2_noMoreThan 8 (some .long) 1 24 [] [.int p0, .int p1, .int p2] r [] := by
  refine Kl_of (by decide +kernel) (Nat.le_of_ble_eq_true rfl) (fun p e s m below meth c A S hK hA hZ Q hQ ls hl hW => ?_)
  have hl : lv_has ls 8 [(0, .int p0), (1, .int p1), (2, .int p2)] := hl
  unfold fOd_noMoreThan at h
  refine lv_lconst (v := 0) S.1 S.2.1 dX2_noMoreThan_0 (by decide) ?_
  refine lv_lstore_n (lv' := [(3, .long (0 : Int64)), (0, .int p0), (1, .int p1), (2, .int p2)]) S.1 S.2.1 dX2_noMoreThan_1 rfl hl (by decide) rfl (fun ls hl => ?_)
  refine lv_lconst (v := 1) S.1 S.2.1 dX2_noMoreThan_2 (by decide) ?_
  refine lv_lstore (lv' := [(5, .long (1 : Int64)), (3, .long (0 : Int64)), (0, .int p0), (1, .int p1), (2, .int p2)]) S.1 S.2.1 dX2_noMoreThan_3 hl (by decide) rfl (fun ls hl => ?_)
  refine lv_iconst (v := 0) S.1 S.2.1 dX2_noMoreThan_5 (by decide) ?_
  refine lv_istore (lv' := [(7, .int (0 : Int32)), (5, .long (1 : Int64)), (3, .long (0 : Int64)), (0, .int p0), (1, .int p1), (2, .int p2)]) S.1 S.2.1 dX2_noMoreThan_6 hl (by decide) rfl (fun ls hl => ?_)
  exact wOd_noMoreThan_8 S hK hA hQ N p0 p1 p2 (0 : Int64) (1 : Int64) (0 : Int32) _ _ _ h hW (lv_sub hl [3, 4, 5, 2, 1, 0] rfl)
set_option maxHeartbeats 4000000 in
set_option maxRecDepth 100000 in
theorem wOd_commonDivisor_45 {p : Program} {l : Launch} {e : Env} {s : State} {m : MethodId} {args : Array Value} {below : List Frame} {meth : Method} {c : Code} {A : Nat → Prop} {Q : State → Prop} {D : va_G} {cs : Nat → ClassId} {r : Int64} {N : Nat} (S : Fx p m c cX2_commonDivisor 11 s args RX2) (hK : va_K D vwCl (tyL cs) s) (hA : ∀ x, s.heap.size ≤ x → A x) (hQ : ∀ (H : Heap) (locs : List Loc) (pc : Nat) (ls : Array Slot), decode cX2_commonDivisor pc = .ok (.lreturn, 1) → Wd D A s.heap [] H locs → W p l e { frames := 0, cells := 0, slots := 0, locals := 0 } s m args below meth c H locs 0 0 Q (F0 m pc ls [.long r])) : ∀ (v4 : Int64) (H : Heap) (locs : List Loc) (ls : Array Slot), fOd_commonDivisor_45 N v4 = some r → Wd D A s.heap [] H locs → lv_has ls 11 [(4, .long v4)] → W p l e { frames := 0, cells := 0, slots := 0, locals := 0 } s m args below meth c H locs 0 0 Q (F0 m 45 ls []) := by
  intro v4 H locs ls h hW hl
  unfold fOd_commonDivisor_45 at h
  refine lv_lload S.1 S.2.1 dX2_commonDivisor_45 (lv_at hl 0 rfl) ?_
  obtain rfl := pr1 h
  exact hQ _ _ _ _ dX2_commonDivisor_47 hW
set_option maxHeartbeats 4000000 in
set_option maxRecDepth 100000 in
theorem wOd_commonDivisor_9 {p : Program} {l : Launch} {e : Env} {s : State} {m : MethodId} {args : Array Value} {below : List Frame} {meth : Method} {c : Code} {A : Nat → Prop} {Q : State → Prop} {D : va_G} {cs : Nat → ClassId} {r : Int64} {N : Nat} (S : Fx p m c cX2_commonDivisor 11 s args RX2) (hK : va_K D vwCl (tyL cs) s) (hA : ∀ x, s.heap.size ≤ x → A x) (hQ : ∀ (H : Heap) (locs : List Loc) (pc : Nat) (ls : Array Slot), decode cX2_commonDivisor pc = .ok (.lreturn, 1) → Wd D A s.heap [] H locs → W p l e { frames := 0, cells := 0, slots := 0, locals := 0 } s m args below meth c H locs 0 0 Q (F0 m pc ls [.long r])) : ∀ (n_9 : Nat) (v4 : Int64) (v6 : Int64) (v8 : Int32) (H : Heap) (locs : List Loc) (ls : Array Slot), fOd_commonDivisor_9 N n_9 v4 v6 v8 = some r → Wd D A s.heap [] H locs → lv_has ls 11 [(4, .long v4), (6, .long v6), (8, .int v8)] → W p l e { frames := 0, cells := 0, slots := 0, locals := 0 } s m args below meth c H locs 0 0 Q (F0 m 9 ls []) := by
  intro n_9
  induction n_9 with
  | zero =>
    intro v4 v6 v8 H locs ls h
    cases h
  | succ n_9 ih =>
    intro v4 v6 v8 H locs ls h hW hl
    unfold fOd_commonDivisor_9 at h
    refine lv_iload S.1 S.2.1 dX2_commonDivisor_9 (lv_at hl 2 rfl) ?_
    refine lv_sipush (v := 1000) S.1 S.2.1 dX2_commonDivisor_11 (by decide) ?_
    refine lv_icmp_ge (tgt := 45) S.1 S.2.1 dX2_commonDivisor_14 (by decide) (fun c_1 => ?_) (fun c_1 => ?_)
    · have h := ite_t c_1 h
      exact wOd_commonDivisor_45 S hK hA hQ v4 _ _ _ h hW (lv_sub hl [0] rfl)
    · have h := ite_f c_1 h
      refine lv_lload S.1 S.2.1 dX2_commonDivisor_17 (lv_at hl 1 rfl) ?_
      refine lv_lconst (v := 0) S.1 S.2.1 dX2_commonDivisor_19 (by decide) ?_
      refine W.lcmp S.1 S.2.1 dX2_commonDivisor_20 ?_
      refine lv_if_le (tgt := 45) S.1 S.2.1 dX2_commonDivisor_21 (by decide) (fun c_2 => ?_) (fun c_2 => ?_)
      · have h := ite_t c_2 h
        exact wOd_commonDivisor_45 S hK hA hQ v4 _ _ _ h hW (lv_sub hl [0] rfl)
      · have h := ite_f c_2 h
        refine lv_lload S.1 S.2.1 dX2_commonDivisor_24 (lv_at hl 0 rfl) ?_
        refine lv_lload S.1 S.2.1 dX2_commonDivisor_26 (lv_at hl 1 rfl) ?_
        obtain ⟨hz_3, h⟩ := gZL_some h
        refine lv_lrem S.1 S.2.1 dX2_commonDivisor_28 hz_3 ?_
        refine lv_topl (fun x9_4 ex9_4 => ?_)
        have h := nm_to ex9_4 h
        refine lv_lstore (lv' := [(9, .long x9_4), (4, .long v4), (6, .long v6), (8, .int v8)]) S.1 S.2.1 dX2_commonDivisor_29 hl (by decide) rfl (fun ls hl => ?_)
        refine lv_lload S.1 S.2.1 dX2_commonDivisor_31 (lv_at hl 2 rfl) ?_
        refine lv_lstore (lv' := [(4, .long v6), (9, .long x9_4), (6, .long v6), (8, .int v8)]) S.1 S.2.1 dX2_commonDivisor_33 hl (by decide) rfl (fun ls hl => ?_)
        refine lv_lload S.1 S.2.1 dX2_commonDivisor_35 (lv_at hl 1 rfl) ?_
        refine lv_lstore (lv' := [(6, .long x9_4), (4, .long v6), (9, .long x9_4), (8, .int v8)]) S.1 S.2.1 dX2_commonDivisor_37 hl (by decide) rfl (fun ls hl => ?_)
        obtain ⟨x8_5, ex8_5, h⟩ := nm_some h
        refine lv_iinc (v := x8_5) (lv' := [(8, .int x8_5), (6, .long x9_4), (4, .long v6), (9, .long x9_4)]) S.1 S.2.1 dX2_commonDivisor_39 hl (k := 3) rfl (by rw [ex8_5]; rfl) (by decide) rfl (fun ls hl => ?_)
        refine lv_goto (tgt := 9) S.1 S.2.1 dX2_commonDivisor_42 (by decide) ?_
        exact ih v6 x9_4 x8_5 _ _ _ h hW (lv_sub hl [2, 1, 0] rfl)
set_option maxHeartbeats 4000000 in
set_option maxRecDepth 100000 in
theorem cOd_commonDivisor (l : Launch) (D : va_G) (cs : Nat → ClassId) (p0 : Int64) (p1 : Int64) (N : Nat) {r : Int64} (h : fOd_commonDivisor N p0 p1 = some r) : Kl l D cs none yX2_commonDivisor cX2_commonDivisor 11 (some .long) 0 0 [] [.long p0, .long p1] r [] := by
  refine Kl_of (by decide +kernel) (Nat.le_of_ble_eq_true rfl) (fun p e s m below meth c A S hK hA hZ Q hQ ls hl hW => ?_)
  have hl : lv_has ls 11 [(0, .long p0), (2, .long p1)] := hl
  unfold fOd_commonDivisor at h
  refine lv_lload_n S.1 S.2.1 dX2_commonDivisor_0 rfl (lv_at hl 0 rfl) ?_
  refine lv_lstore (lv' := [(4, .long p0), (0, .long p0), (2, .long p1)]) S.1 S.2.1 dX2_commonDivisor_1 hl (by decide) rfl (fun ls hl => ?_)
  refine lv_lload_n S.1 S.2.1 dX2_commonDivisor_3 rfl (lv_at hl 2 rfl) ?_
  refine lv_lstore (lv' := [(6, .long p1), (4, .long p0), (0, .long p0), (2, .long p1)]) S.1 S.2.1 dX2_commonDivisor_4 hl (by decide) rfl (fun ls hl => ?_)
  refine lv_iconst (v := 0) S.1 S.2.1 dX2_commonDivisor_6 (by decide) ?_
  refine lv_istore (lv' := [(8, .int (0 : Int32)), (6, .long p1), (4, .long p0), (0, .long p0), (2, .long p1)]) S.1 S.2.1 dX2_commonDivisor_7 hl (by decide) rfl (fun ls hl => ?_)
  exact wOd_commonDivisor_9 S hK hA hQ N p0 p1 (0 : Int32) _ _ _ h hW (lv_sub hl [2, 1, 0] rfl)
