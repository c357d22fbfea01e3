set_option maxHeartbeats 4000000 in
set_option maxRecDepth 100000 in
theorem cTe_length (l : Launch) (D : va_G) (cs : Nat → ClassId) (a : Nat → Nat) (τ : St) (N : Nat) {r : Int32} (h : fTe_length N τ = some r) : Ki l D cs none yX5_length cX5_length 1 (some .int) 0 0 (wTe cs a τ) [.ref (a 0)] r (wTe cs a τ) := by
  refine Ki_of (by decide +kernel) (Nat.le_of_ble_eq_true rfl) (fun p e s m below meth c A S hK hA hZ Q hQ ls hl hW => ?_)
  have hl : lv_has ls 1 [(0, .ref (a 0))] := hl
  unfold fTe_length at h
  refine lv_aload_n S.1 S.2.1 dX5_length_0 rfl (lv_at hl 0 rfl) ?_
  refine gTe_length S hK hW dX5_length_1 ?_
  obtain rfl := pr1 h
  exact hQ _ _ _ _ dX5_length_4 rfl hW
set_option maxHeartbeats 4000000 in
set_option maxRecDepth 100000 in
theorem cTe_clear (l : Launch) (D : va_G) (cs : Nat → ClassId) (a : Nat → Nat) (τ : St) (N : Nat) {τ' : St} (h : fTe_clear N τ = some τ') : Kv l D cs none yX5_clear cX5_clear 1 none 0 0 (wTe cs a τ) [.ref (a 0)] (wTe cs a τ') := by
  refine Kv_of (by decide +kernel) (Nat.le_of_ble_eq_true rfl) (fun p e s m below meth c A S hK hA hZ Q hQ ls hl hW => ?_)
  have hl : lv_has ls 1 [(0, .ref (a 0))] := hl
  unfold fTe_clear at h
  refine lv_aload_n S.1 S.2.1 dX5_clear_0 rfl (lv_at hl 0 rfl) ?_
  refine lv_iconst (v := 0) S.1 S.2.1 dX5_clear_1 (by decide) ?_
  refine pTe_length S hK hW dX5_clear_2 (fun H locs τ_1 eτ_1 hW => ?_)
  have h := nm_to eτ_1 h
  obtain rfl := pr1 h
  exact hQ _ _ _ _ dX5_clear_5 hW
set_option maxHeartbeats 4000000 in
set_option maxRecDepth 100000 in
theorem wTe_append_18 {p : Program} {l : Launch} {e : Env} {s : State} {m : MethodId} {args : Array Value} {below : List Frame} {meth : Method} {c : Code} {A : Nat → Prop} {Q : State → Prop} {D : va_G} {cs : Nat → ClassId} {a : Nat → Nat} {r : Int32} {τ' : St} {N : Nat} (S : Fx p m c cX5_append 5 s args RX5) (hK : va_K D vwCl (tyL cs) s) (hA : ∀ x, s.heap.size ≤ x → A x) (hQ : ∀ (H : Heap) (locs : List Loc) (pc : Nat) (ls : Array Slot), decode cX5_append pc = .ok (.ireturn, 1) → narrow .boolean (.int r) = .int r → Wd D A s.heap (wTe cs a τ') H locs → W p l e { frames := 0, cells := 0, slots := 0, locals := 0 } s m args below meth c H locs 0 0 Q (F0 m pc ls [.int r])) : ∀ (τ : St) (H : Heap) (locs : List Loc) (ls : Array Slot), fTe_append_18 N τ = some (r, τ') → Wd D A s.heap (wTe cs a τ) H locs → lv_has ls 5 [] → W p l e { frames := 0, cells := 0, slots := 0, locals := 0 } s m args below meth c H locs 0 0 Q (F0 m 18 ls []) := by
  intro τ H locs ls h hW hl
  unfold fTe_append_18 at h
  refine lv_iconst (v := 0) S.1 S.2.1 dX5_append_18 (by decide) ?_
  obtain ⟨rfl, rfl⟩ := pr2 h
  exact hQ _ _ _ _ dX5_append_19 rfl hW
set_option maxHeartbeats 4000000 in
set_option maxRecDepth 100000 in
theorem wTe_append_25 {p : Program} {l : Launch} {e : Env} {s : State} {m : MethodId} {args : Array Value} {below : List Frame} {meth : Method} {c : Code} {A : Nat → Prop} {Q : State → Prop} {D : va_G} {cs : Nat → ClassId} {a : Nat → Nat} {r : Int32} {τ' : St} {N : Nat} (S : Fx p m c cX5_append 5 s args RX5) (hK : va_K D vwCl (tyL cs) s) (hA : ∀ x, s.heap.size ≤ x → A x) (hQ : ∀ (H : Heap) (locs : List Loc) (pc : Nat) (ls : Array Slot), decode cX5_append pc = .ok (.ireturn, 1) → narrow .boolean (.int r) = .int r → Wd D A s.heap (wTe cs a τ') H locs → W p l e { frames := 0, cells := 0, slots := 0, locals := 0 } s m args below meth c H locs 0 0 Q (F0 m pc ls [.int r])) : ∀ (n_25 : Nat) (v2 : Int64) (v4 : Int32) (τ : St) (H : Heap) (locs : List Loc) (ls : Array Slot), fTe_append_25 N n_25 v2 v4 τ = some (r, τ') → Wd D A s.heap (wTe cs a τ) H locs → lv_has ls 5 [(0, .ref (a 0)), (2, .long v2), (4, .int v4)] → W p l e { frames := 0, cells := 0, slots := 0, locals := 0 } s m args below meth c H locs 0 0 Q (F0 m 25 ls []) := by
  intro n_25
  induction n_25 with
  | zero =>
    intro v2 v4 τ H locs ls h
    cases h
  | succ n_25 ih =>
    intro v2 v4 τ H locs ls h hW hl
    unfold fTe_append_25 at h
    refine lv_iload S.1 S.2.1 dX5_append_25 (lv_at hl 2 rfl) ?_
    refine lv_if_lt (tgt := 64) S.1 S.2.1 dX5_append_27 (by decide) (fun c_1 => ?_) (fun c_1 => ?_)
    · have h := ite_t c_1 h
      refine lv_iconst (v := 1) S.1 S.2.1 dX5_append_64 (by decide) ?_
      obtain ⟨rfl, rfl⟩ := pr2 h
      exact hQ _ _ _ _ dX5_append_65 rfl hW
    · have h := ite_f c_1 h
      refine lv_aload_n S.1 S.2.1 dX5_append_30 rfl (lv_at hl 0 rfl) ?_
      refine gTe_bytes S hK hW dX5_append_31 ?_
      refine lv_aload_n S.1 S.2.1 dX5_append_34 rfl (lv_at hl 0 rfl) ?_
      refine gTe_length S hK hW dX5_append_35 ?_
      refine lv_lload_n S.1 S.2.1 dX5_append_38 rfl (lv_at hl 1 rfl) ?_
      refine lv_bipush (v := 8) S.1 S.2.1 dX5_append_39 (by decide) ?_
      refine lv_iload S.1 S.2.1 dX5_append_41 (lv_at hl 2 rfl) ?_
      refine lv_imul S.1 S.2.1 dX5_append_43 ?_
      refine lv_lushr S.1 S.2.1 dX5_append_44 rfl ?_
      refine lv_l2i S.1 S.2.1 dX5_append_45 rfl ?_
      refine lv_i2b S.1 S.2.1 dX5_append_46 rfl ?_
      obtain ⟨hi_2, h⟩ := gI_some h
      refine sTe_bytes S hK hW hi_2 dX5_append_47 (fun H locs τ_3 eτ_3 hW => ?_)
      have h := nm_to eτ_3 h
      refine lv_aload_n S.1 S.2.1 dX5_append_48 rfl (lv_at hl 0 rfl) ?_
      refine lv_dup S.1 S.2.1 dX5_append_49 rfl ?_
      refine gTe_length S hK hW dX5_append_50 ?_
      refine lv_iconst (v := 1) S.1 S.2.1 dX5_append_53 (by decide) ?_
      refine lv_iadd S.1 S.2.1 dX5_append_54 ?_
      refine pTe_length S hK hW dX5_append_55 (fun H locs τ_4 eτ_4 hW => ?_)
      have h := nm_to eτ_4 h
      obtain ⟨x4_5, ex4_5, h⟩ := nm_some h
      refine lv_iinc (v := x4_5) (lv' := [(4, .int x4_5), (0, .ref (a 0)), (2, .long v2)]) S.1 S.2.1 dX5_append_58 hl (k := 2) rfl (by rw [ex4_5]; rfl) (by decide) rfl (fun ls hl => ?_)
      refine lv_goto (tgt := 25) S.1 S.2.1 dX5_append_61 (by decide) ?_
      exact ih v2 x4_5 τ_4 _ _ _ h hW (lv_sub hl [1, 2, 0] rfl)
set_option maxHeartbeats 4000000 in
set_option maxRecDepth 100000 in
theorem cTe_append (l : Launch) (D : va_G) (cs : Nat → ClassId) (a : Nat → Nat) (τ : St) (p0 : Int32) (p1 : Int64) (N : Nat) {r : Int32} {τ' : St} (h : fTe_append N p0 p1 τ = some (r, τ')) : Ki l D cs none yX5_append cX5_append 5 (some .boolean) 0 0 (wTe cs a τ) [.ref (a 0), .int p0, .long p1] r (wTe cs a τ') := by
  refine Ki_of (by decide +kernel) (Nat.le_of_ble_eq_true rfl) (fun p e s m below meth c A S hK hA hZ Q hQ ls hl hW => ?_)
  have hl : lv_has ls 5 [(0, .ref (a 0)), (1, .int p0), (2, .long p1)] := hl
  unfold fTe_append at h
  refine lv_iload_n S.1 S.2.1 dX5_append_0 rfl (lv_at hl 1 rfl) ?_
  refine lv_if_lt (tgt := 18) S.1 S.2.1 dX5_append_1 (by decide) (fun c_6 => ?_) (fun c_6 => ?_)
  · have h := ite_t c_6 h
    exact wTe_append_18 S hK hA hQ τ _ _ _ h hW (lv_sub hl [] rfl)
  · have h := ite_f c_6 h
    refine lv_iload_n S.1 S.2.1 dX5_append_4 rfl (lv_at hl 1 rfl) ?_
    refine lv_aload_n S.1 S.2.1 dX5_append_5 rfl (lv_at hl 0 rfl) ?_
    refine gTe_bytes S hK hW dX5_append_6 ?_
    refine nTe_bytes S hK hW dX5_append_9 ?_
    refine lv_aload_n S.1 S.2.1 dX5_append_10 rfl (lv_at hl 0 rfl) ?_
    refine gTe_length S hK hW dX5_append_11 ?_
    refine lv_isub S.1 S.2.1 dX5_append_14 ?_
    refine lv_icmp_le (tgt := 20) S.1 S.2.1 dX5_append_15 (by decide) (fun c_7 => ?_) (fun c_7 => ?_)
    · have h := ite_t c_7 h
      refine lv_iload_n S.1 S.2.1 dX5_append_20 rfl (lv_at hl 1 rfl) ?_
      refine lv_iconst (v := 1) S.1 S.2.1 dX5_append_21 (by decide) ?_
      refine lv_isub S.1 S.2.1 dX5_append_22 ?_
      refine lv_topi (fun x4_8 ex4_8 => ?_)
      have h := nm_to ex4_8 h
      refine lv_istore (lv' := [(4, .int x4_8), (0, .ref (a 0)), (1, .int p0), (2, .long p1)]) S.1 S.2.1 dX5_append_23 hl (by decide) rfl (fun ls hl => ?_)
      exact wTe_append_25 S hK hA hQ N p1 x4_8 τ _ _ _ h hW (lv_sub hl [1, 3, 0] rfl)
    · have h := ite_f c_7 h
      exact wTe_append_18 S hK hA hQ τ _ _ _ h hW (lv_sub hl [] rfl)
set_option maxHeartbeats 4000000 in
set_option maxRecDepth 100000 in
theorem wTe_byteAt_27 {p : Program} {l : Launch} {e : Env} {s : State} {m : MethodId} {args : Array Value} {below : List Frame} {meth : Method} {c : Code} {A : Nat → Prop} {Q : State → Prop} {D : va_G} {cs : Nat → ClassId} {a : Nat → Nat} {τ : St} {r : Int32} {N : Nat} (S : Fx p m c cX5_byteAt 2 s args RX5) (hK : va_K D vwCl (tyL cs) s) (hA : ∀ x, s.heap.size ≤ x → A x) (hQ : ∀ (H : Heap) (locs : List Loc) (pc : Nat) (ls : Array Slot), decode cX5_byteAt pc = .ok (.ireturn, 1) → narrow .int (.int r) = .int r → Wd D A s.heap (wTe cs a τ) H locs → W p l e { frames := 0, cells := 0, slots := 0, locals := 0 } s m args below meth c H locs 0 0 Q (F0 m pc ls [.int r])) : ∀ (k0 : Int32) (H : Heap) (locs : List Loc) (ls : Array Slot), fTe_byteAt_27 N τ k0 = some r → Wd D A s.heap (wTe cs a τ) H locs → lv_has ls 2 [] → W p l e { frames := 0, cells := 0, slots := 0, locals := 0 } s m args below meth c H locs 0 0 Q (F0 m 27 ls [.int k0]) := by
  intro k0 H locs ls h hW hl
  unfold fTe_byteAt_27 at h
  obtain rfl := pr1 h
  exact hQ _ _ _ _ dX5_byteAt_27 rfl hW
set_option maxHeartbeats 4000000 in
set_option maxRecDepth 100000 in
theorem wTe_byteAt_25 {p : Program} {l : Launch} {e : Env} {s : State} {m : MethodId} {args : Array Value} {below : List Frame} {meth : Method} {c : Code} {A : Nat → Prop} {Q : State → Prop} {D : va_G} {cs : Nat → ClassId} {a : Nat → Nat} {τ : St} {r : Int32} {N : Nat} (S : Fx p m c cX5_byteAt 2 s args RX5) (hK : va_K D vwCl (tyL cs) s) (hA : ∀ x, s.heap.size ≤ x → A x) (hQ : ∀ (H : Heap) (locs : List Loc) (pc : Nat) (ls : Array Slot), decode cX5_byteAt pc = .ok (.ireturn, 1) → narrow .int (.int r) = .int r → Wd D A s.heap (wTe cs a τ) H locs → W p l e { frames := 0, cells := 0, slots := 0, locals := 0 } s m args below meth c H locs 0 0 Q (F0 m pc ls [.int r])) : ∀ (H : Heap) (locs : List Loc) (ls : Array Slot), fTe_byteAt_25 N τ = some r → Wd D A s.heap (wTe cs a τ) H locs → lv_has ls 2 [] → W p l e { frames := 0, cells := 0, slots := 0, locals := 0 } s m args below meth c H locs 0 0 Q (F0 m 25 ls []) := by
  intro  H locs ls h hW hl
  unfold fTe_byteAt_25 at h
  refine lv_bipush (v := -4) S.1 S.2.1 dX5_byteAt_25 (by decide) ?_
  exact wTe_byteAt_27 S hK hA hQ (-4 : Int32) _ _ _ h hW (lv_sub hl [] rfl)
set_option maxHeartbeats 4000000 in
set_option maxRecDepth 100000 in
theorem cTe_byteAt (l : Launch) (D : va_G) (cs : Nat → ClassId) (a : Nat → Nat) (τ : St) (p0 : Int32) (N : Nat) {r : Int32} (h : fTe_byteAt N p0 τ = some r) : Ki l D cs none yX5_byteAt cX5_byteAt 2 (some .int) 0 0 (wTe cs a τ) [.ref (a 0), .int p0] r (wTe cs a τ) := by
  refine Ki_of (by decide +kernel) (Nat.le_of_ble_eq_true rfl) (fun p e s m below meth c A S hK hA hZ Q hQ ls hl hW => ?_)
  have hl : lv_has ls 2 [(0, .ref (a 0)), (1, .int p0)] := hl
  unfold fTe_byteAt at h
  refine lv_iload_n S.1 S.2.1 dX5_byteAt_0 rfl (lv_at hl 1 rfl) ?_
  refine lv_if_lt (tgt := 25) S.1 S.2.1 dX5_byteAt_1 (by decide) (fun c_1 => ?_) (fun c_1 => ?_)
  · have h := ite_t c_1 h
    exact wTe_byteAt_25 S hK hA hQ _ _ _ h hW (lv_sub hl [] rfl)
  · have h := ite_f c_1 h
    refine lv_iload_n S.1 S.2.1 dX5_byteAt_4 rfl (lv_at hl 1 rfl) ?_
    refine lv_aload_n S.1 S.2.1 dX5_byteAt_5 rfl (lv_at hl 0 rfl) ?_
    refine gTe_length S hK hW dX5_byteAt_6 ?_
    refine lv_icmp_ge (tgt := 25) S.1 S.2.1 dX5_byteAt_9 (by decide) (fun c_2 => ?_) (fun c_2 => ?_)
    · have h := ite_t c_2 h
      exact wTe_byteAt_25 S hK hA hQ _ _ _ h hW (lv_sub hl [] rfl)
    · have h := ite_f c_2 h
      refine lv_aload_n S.1 S.2.1 dX5_byteAt_12 rfl (lv_at hl 0 rfl) ?_
      refine gTe_bytes S hK hW dX5_byteAt_13 ?_
      refine lv_iload_n S.1 S.2.1 dX5_byteAt_16 rfl (lv_at hl 1 rfl) ?_
      obtain ⟨hi_3, h⟩ := gI_some h
      refine lTe_bytes S hK hW hi_3 dX5_byteAt_17 ?_
      refine lv_sipush (v := 255) S.1 S.2.1 dX5_byteAt_18 (by decide) ?_
      refine lv_iand S.1 S.2.1 dX5_byteAt_21 ?_
      refine lv_goto (tgt := 27) S.1 S.2.1 dX5_byteAt_22 (by decide) ?_
      exact wTe_byteAt_27 S hK hA hQ ((τ 1 p0.toNatClampNeg) &&& (255 : Int32)) _ _ _ h hW (lv_sub hl [] rfl)
