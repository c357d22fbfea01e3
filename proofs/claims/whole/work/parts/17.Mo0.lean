set_option maxHeartbeats 4000000 in
set_option maxRecDepth 100000 in
theorem wMo_in_18 {p : Program} {l : Launch} {e : Env} {s : State} {m : MethodId} {args : Array Value} {below : List Frame} {meth : Method} {c : Code} {A : Nat → Prop} {Q : State → Prop} {D : va_G} {cs : Nat → ClassId} {r : Int32} {N : Nat} (S : Fx p m c cX7_in 6 s args RX7) (hK : va_K D vwCl (tyL cs) s) (hA : ∀ x, s.heap.size ≤ x → A x) (hQ : ∀ (H : Heap) (locs : List Loc) (pc : Nat) (ls : Array Slot), decode cX7_in pc = .ok (.ireturn, 1) → narrow .boolean (.int r) = .int r → Wd D A s.heap [] H locs → W p l e { frames := 0, cells := 0, slots := 0, locals := 0 } s m args below meth c H locs 0 0 Q (F0 m pc ls [.int r])) : ∀ (k0 : Int32) (H : Heap) (locs : List Loc) (ls : Array Slot), fMo_in_18 N k0 = some r → Wd D A s.heap [] H locs → lv_has ls 6 [] → W p l e { frames := 0, cells := 0, slots := 0, locals := 0 } s m args below meth c H locs 0 0 Q (F0 m 18 ls [.int k0]) := by
  intro k0 H locs ls h hW hl
  unfold fMo_in_18 at h
  obtain ⟨hb_1, h⟩ := gB_some h
  obtain rfl := pr1 h
  exact hQ _ _ _ _ dX7_in_18 hb_1 hW
set_option maxHeartbeats 4000000 in
set_option maxRecDepth 100000 in
theorem wMo_in_17 {p : Program} {l : Launch} {e : Env} {s : State} {m : MethodId} {args : Array Value} {below : List Frame} {meth : Method} {c : Code} {A : Nat → Prop} {Q : State → Prop} {D : va_G} {cs : Nat → ClassId} {r : Int32} {N : Nat} (S : Fx p m c cX7_in 6 s args RX7) (hK : va_K D vwCl (tyL cs) s) (hA : ∀ x, s.heap.size ≤ x → A x) (hQ : ∀ (H : Heap) (locs : List Loc) (pc : Nat) (ls : Array Slot), decode cX7_in pc = .ok (.ireturn, 1) → narrow .boolean (.int r) = .int r → Wd D A s.heap [] H locs → W p l e { frames := 0, cells := 0, slots := 0, locals := 0 } s m args below meth c H locs 0 0 Q (F0 m pc ls [.int r])) : ∀ (H : Heap) (locs : List Loc) (ls : Array Slot), fMo_in_17 N = some r → Wd D A s.heap [] H locs → lv_has ls 6 [] → W p l e { frames := 0, cells := 0, slots := 0, locals := 0 } s m args below meth c H locs 0 0 Q (F0 m 17 ls []) := by
  intro  H locs ls h hW hl
  unfold fMo_in_17 at h
  refine lv_iconst (v := 0) S.1 S.2.1 dX7_in_17 (by decide) ?_
  exact wMo_in_18 S hK hA hQ (0 : Int32) _ _ _ h hW (lv_sub hl [] rfl)
set_option maxHeartbeats 4000000 in
set_option maxRecDepth 100000 in
theorem cMo_in (l : Launch) (D : va_G) (cs : Nat → ClassId) (p0 : Int64) (p1 : Int64) (p2 : Int64) (N : Nat) {r : Int32} (h : fMo_in N p0 p1 p2 = some r) : Ki l D cs none yX7_in cX7_in 6 (some .boolean) 0 0 [] [.long p0, .long p1, .long p2] r [] := by
  refine Ki_of (by decide +kernel) (Nat.le_of_ble_eq_true rfl) (fun p e s m below meth c A S hK hA hZ Q hQ ls hl hW => ?_)
  have hl : lv_has ls 6 [(0, .long p0), (2, .long p1), (4, .long p2)] := hl
  unfold fMo_in at h
  refine lv_lload_n S.1 S.2.1 dX7_in_0 rfl (lv_at hl 0 rfl) ?_
  refine lv_lload_n S.1 S.2.1 dX7_in_1 rfl (lv_at hl 1 rfl) ?_
  refine W.lcmp S.1 S.2.1 dX7_in_2 ?_
  refine lv_if_lt (tgt := 17) S.1 S.2.1 dX7_in_3 (by decide) (fun c_2 => ?_) (fun c_2 => ?_)
  · have h := ite_t c_2 h
    exact wMo_in_17 S hK hA hQ _ _ _ h hW (lv_sub hl [] rfl)
  · have h := ite_f c_2 h
    refine lv_lload_n S.1 S.2.1 dX7_in_6 rfl (lv_at hl 0 rfl) ?_
    refine lv_lload S.1 S.2.1 dX7_in_7 (lv_at hl 2 rfl) ?_
    refine W.lcmp S.1 S.2.1 dX7_in_9 ?_
    refine lv_if_gt (tgt := 17) S.1 S.2.1 dX7_in_10 (by decide) (fun c_3 => ?_) (fun c_3 => ?_)
    · have h := ite_t c_3 h
      exact wMo_in_17 S hK hA hQ _ _ _ h hW (lv_sub hl [] rfl)
    · have h := ite_f c_3 h
      refine lv_iconst (v := 1) S.1 S.2.1 dX7_in_13 (by decide) ?_
      refine lv_goto (tgt := 18) S.1 S.2.1 dX7_in_14 (by decide) ?_
      exact wMo_in_18 S hK hA hQ (1 : Int32) _ _ _ h hW (lv_sub hl [] rfl)
set_option maxHeartbeats 4000000 in
set_option maxRecDepth 100000 in
theorem wMo_write_34 {p : Program} {l : Launch} {e : Env} {s : State} {m : MethodId} {args : Array Value} {below : List Frame} {meth : Method} {c : Code} {A : Nat → Prop} {Q : State → Prop} {D : va_G} {cs : Nat → ClassId} {a : Nat → Nat} {Λ : Nat → Int64} {r : Int32} {σ' : St} {N : Nat} (S : Fx p m c cX7_write 5 s args RX7) (hK : va_K D vwCl (tyL cs) s) (hA : ∀ x, s.heap.size ≤ x → A x) (hQ : ∀ (H : Heap) (locs : List Loc) (pc : Nat) (ls : Array Slot), decode cX7_write pc = .ok (.ireturn, 1) → narrow .int (.int r) = .int r → Wd D A s.heap (wMo cs a σ' Λ) H locs → W p l e { frames := 1, cells := 0, slots := 0, locals := 25 } s m args below meth c H locs 0 0 Q (F0 m pc ls [.int r])) : ∀ (n_34 : Nat) (v2 : Int64) (v4 : Int32) (σ : St) (H : Heap) (locs : List Loc) (ls : Array Slot), fMo_write_34 N n_34 v2 v4 σ = some (r, σ') → Wd D A s.heap (wMo cs a σ Λ) H locs → lv_has ls 5 [(0, .ref (a 0)), (2, .long v2), (4, .int v4)] → W p l e { frames := 1, cells := 0, slots := 0, locals := 25 } s m args below meth c H locs 0 0 Q (F0 m 34 ls []) := by
  intro n_34
  induction n_34 with
  | zero =>
    intro v2 v4 σ H locs ls h
    cases h
  | succ n_34 ih =>
    intro v2 v4 σ H locs ls h hW hl
    unfold fMo_write_34 at h
    refine lv_iload S.1 S.2.1 dX7_write_34 (lv_at hl 2 rfl) ?_
    refine lv_if_lt (tgt := 73) S.1 S.2.1 dX7_write_36 (by decide) (fun c_1 => ?_) (fun c_1 => ?_)
    · have h := ite_t c_1 h
      refine lv_aload_n S.1 S.2.1 dX7_write_73 rfl (lv_at hl 0 rfl) ?_
      refine gMo_length S hK hW dX7_write_74 ?_
      obtain ⟨rfl, rfl⟩ := pr2 h
      exact hQ _ _ _ _ dX7_write_77 rfl hW
    · have h := ite_f c_1 h
      refine lv_aload_n S.1 S.2.1 dX7_write_39 rfl (lv_at hl 0 rfl) ?_
      refine gMo_text S hK hW dX7_write_40 ?_
      refine lv_aload_n S.1 S.2.1 dX7_write_43 rfl (lv_at hl 0 rfl) ?_
      refine gMo_length S hK hW dX7_write_44 ?_
      refine lv_lload_n S.1 S.2.1 dX7_write_47 rfl (lv_at hl 1 rfl) ?_
      refine lv_bipush (v := 8) S.1 S.2.1 dX7_write_48 (by decide) ?_
      refine lv_iload S.1 S.2.1 dX7_write_50 (lv_at hl 2 rfl) ?_
      refine lv_imul S.1 S.2.1 dX7_write_52 ?_
      refine lv_lshr S.1 S.2.1 dX7_write_53 rfl ?_
      refine lv_l2i S.1 S.2.1 dX7_write_54 rfl ?_
      refine lv_i2b S.1 S.2.1 dX7_write_55 rfl ?_
      obtain ⟨hi_2, h⟩ := gI_some h
      refine sMo_text S hK hW hi_2 dX7_write_56 (fun H locs σ_3 eσ_3 hW => ?_)
      have h := nm_to eσ_3 h
      refine lv_aload_n S.1 S.2.1 dX7_write_57 rfl (lv_at hl 0 rfl) ?_
      refine lv_dup S.1 S.2.1 dX7_write_58 rfl ?_
      refine gMo_length S hK hW dX7_write_59 ?_
      refine lv_iconst (v := 1) S.1 S.2.1 dX7_write_62 (by decide) ?_
      refine lv_iadd S.1 S.2.1 dX7_write_63 ?_
      refine pMo_length S hK hW dX7_write_64 (fun H locs σ_4 eσ_4 hW => ?_)
      have h := nm_to eσ_4 h
      obtain ⟨x4_5, ex4_5, h⟩ := nm_some h
      refine lv_iinc (v := x4_5) (lv' := [(4, .int x4_5), (0, .ref (a 0)), (2, .long v2)]) S.1 S.2.1 dX7_write_67 hl (k := 2) rfl (by rw [ex4_5]; rfl) (by decide) rfl (fun ls hl => ?_)
      refine lv_goto (tgt := 34) S.1 S.2.1 dX7_write_70 (by decide) ?_
      exact ih v2 x4_5 σ_4 _ _ _ h hW (lv_sub hl [1, 2, 0] rfl)
set_option maxHeartbeats 4000000 in
set_option maxRecDepth 100000 in
theorem cMo_write (l : Launch) (D : va_G) (cs : Nat → ClassId) (a : Nat → Nat) (σ : St) (Λ : Nat → Int64) (p0 : Int32) (p1 : Int64) (N : Nat) {r : Int32} {σ' : St} (h : fMo_write N p0 p1 σ = some (r, σ')) : Ki l D cs none yX7_write cX7_write 5 (some .int) 1 25 (wMo cs a σ Λ) [.ref (a 0), .int p0, .long p1] r (wMo cs a σ' Λ) := by
  refine Ki_of (by decide +kernel) (Nat.le_of_ble_eq_true rfl) (fun p e s m below meth c A S hK hA hZ Q hQ ls hl hW => ?_)
  have hl : lv_has ls 5 [(0, .ref (a 0)), (1, .int p0), (2, .long p1)] := hl
  unfold fMo_write at h
  refine lv_iload_n S.1 S.2.1 dX7_write_0 rfl (lv_at hl 1 rfl) ?_
  refine lv_i2l S.1 S.2.1 dX7_write_1 rfl ?_
  refine lv_lconst (v := 1) S.1 S.2.1 dX7_write_2 (by decide) ?_
  refine lv_ldc2 (v := 8) S.1 S.2.1 S.2.2.2.1 (S.2.2.2.2 _ q775) dX7_write_3 ?_
  obtain ⟨r_6, hc_7, h⟩ := cl1_some h
  refine kS_i (As := [.long (p0.toInt64), .long (1 : Int64), .long (8 : Int64)]) (rest := []) S hK hA (z := none) trivial [] (wMo cs a σ Λ) hW (cMo_in l D cs (p0.toInt64) (1 : Int64) (8 : Int64) N hc_7) lk_X7_80 q777 ⟨Nat.le_of_ble_eq_true rfl, Nat.le_of_ble_eq_true rfl⟩ rfl (Nat.le_of_ble_eq_true rfl) hl.1 dX7_write_6 ⟨Nat.zero_le _, Nat.zero_le _⟩ (fun H locs hW => ?_)
  have hW : Wd D A s.heap (wMo cs a σ Λ) H locs := hW
  refine lv_if_ne (tgt := 14) S.1 S.2.1 dX7_write_9 (by decide) (fun c_8 => ?_) (fun c_8 => ?_)
  · have h := ite_f c_8 h
    refine lv_aload_n S.1 S.2.1 dX7_write_14 rfl (lv_at hl 0 rfl) ?_
    refine gMo_length S hK hW dX7_write_15 ?_
    refine lv_iload_n S.1 S.2.1 dX7_write_18 rfl (lv_at hl 1 rfl) ?_
    refine lv_iadd S.1 S.2.1 dX7_write_19 ?_
    refine lv_sipush (v := 400) S.1 S.2.1 dX7_write_20 (by decide) ?_
    refine lv_icmp_le (tgt := 29) S.1 S.2.1 dX7_write_23 (by decide) (fun c_9 => ?_) (fun c_9 => ?_)
    · have h := ite_t c_9 h
      refine lv_iload_n S.1 S.2.1 dX7_write_29 rfl (lv_at hl 1 rfl) ?_
      refine lv_iconst (v := 1) S.1 S.2.1 dX7_write_30 (by decide) ?_
      refine lv_isub S.1 S.2.1 dX7_write_31 ?_
      refine lv_topi (fun x4_10 ex4_10 => ?_)
      have h := nm_to ex4_10 h
      refine lv_istore (lv' := [(4, .int x4_10), (0, .ref (a 0)), (1, .int p0), (2, .long p1)]) S.1 S.2.1 dX7_write_32 hl (by decide) rfl (fun ls hl => ?_)
      exact wMo_write_34 S hK hA hQ N p1 x4_10 σ _ _ _ h hW (lv_sub hl [1, 3, 0] rfl)
    · have h := ite_f c_9 h
      refine lv_bipush (v := -3) S.1 S.2.1 dX7_write_26 (by decide) ?_
      obtain ⟨rfl, rfl⟩ := pr2 h
      exact hQ _ _ _ _ dX7_write_28 rfl hW
  · have h := ite_t c_8 h
    refine lv_iconst (v := -1) S.1 S.2.1 dX7_write_12 (by decide) ?_
    obtain ⟨rfl, rfl⟩ := pr2 h
    exact hQ _ _ _ _ dX7_write_13 rfl hW
set_option maxHeartbeats 4000000 in
set_option maxRecDepth 100000 in
theorem cMo_wipe (l : Launch) (D : va_G) (cs : Nat → ClassId) (a : Nat → Nat) (σ : St) (Λ : Nat → Int64) (N : Nat) {r : Int32} {σ' : St} (h : fMo_wipe N σ = some (r, σ')) : Ki l D cs none yX7_wipe cX7_wipe 2 (some .int) 0 0 (wMo cs a σ Λ) [.ref (a 0)] r (wMo cs a σ' Λ) := by
  refine Ki_of (by decide +kernel) (Nat.le_of_ble_eq_true rfl) (fun p e s m below meth c A S hK hA hZ Q hQ ls hl hW => ?_)
  have hl : lv_has ls 2 [(0, .ref (a 0))] := hl
  unfold fMo_wipe at h
  refine lv_aload_n S.1 S.2.1 dX7_wipe_0 rfl (lv_at hl 0 rfl) ?_
  refine gMo_length S hK hW dX7_wipe_1 ?_
  refine lv_topi (fun x1_1 ex1_1 => ?_)
  have h := nm_to ex1_1 h
  refine lv_istore_n (lv' := [(1, .int x1_1), (0, .ref (a 0))]) S.1 S.2.1 dX7_wipe_4 rfl hl (by decide) rfl (fun ls hl => ?_)
  refine lv_aload_n S.1 S.2.1 dX7_wipe_5 rfl (lv_at hl 1 rfl) ?_
  refine lv_iconst (v := 0) S.1 S.2.1 dX7_wipe_6 (by decide) ?_
  refine pMo_length S hK hW dX7_wipe_7 (fun H locs σ_2 eσ_2 hW => ?_)
  have h := nm_to eσ_2 h
  refine lv_iload_n S.1 S.2.1 dX7_wipe_10 rfl (lv_at hl 0 rfl) ?_
  obtain ⟨rfl, rfl⟩ := pr2 h
  exact hQ _ _ _ _ dX7_wipe_11 rfl hW
set_option maxHeartbeats 4000000 in
set_option maxRecDepth 100000 in
theorem wMo_number_63 {p : Program} {l : Launch} {e : Env} {s : State} {m : MethodId} {args : Array Value} {below : List Frame} {meth : Method} {c : Code} {A : Nat → Prop} {Q : State → Prop} {D : va_G} {cs : Nat → ClassId} {a : Nat → Nat} {Λ : Nat → Int64} {r : Int32} {σ' : St} {N : Nat} (S : Fx p m c cX7_number 3 s args RX7) (hK : va_K D vwCl (tyL cs) s) (hA : ∀ x, s.heap.size ≤ x → A x) (hQ : ∀ (H : Heap) (locs : List Loc) (pc : Nat) (ls : Array Slot), decode cX7_number pc = .ok (.ireturn, 1) → narrow .int (.int r) = .int r → Wd D A s.heap (wMo cs a σ' Λ) H locs → W p l e { frames := 1, cells := 0, slots := 0, locals := 25 } s m args below meth c H locs 0 0 Q (F0 m pc ls [.int r])) {k_4 : Int32 → Int32 → St → Option (Int32 × St)} (hk_4 : ∀ (v1 : Int32) (v2 : Int32) (σ : St) (H : Heap) (locs : List Loc) (ls : Array Slot), k_4 v1 v2 σ = some (r, σ') → Wd D A s.heap (wMo cs a σ Λ) H locs → lv_has ls 3 [(0, .ref (a 0)), (1, .int v1), (2, .int v2)] → W p l e { frames := 1, cells := 0, slots := 0, locals := 25 } s m args below meth c H locs 0 0 Q (F0 m 4 ls [])) : ∀ (v2 : Int32) (k0 : Int32) (σ : St) (H : Heap) (locs : List Loc) (ls : Array Slot), fMo_number_63 k_4 N v2 k0 σ = some (r, σ') → Wd D A s.heap (wMo cs a σ Λ) H locs → lv_has ls 3 [(0, .ref (a 0)), (2, .int v2)] → W p l e { frames := 1, cells := 0, slots := 0, locals := 25 } s m args below meth c H locs 0 0 Q (F0 m 63 ls [.int k0]) := by
  intro v2 k0 σ H locs ls h hW hl
  unfold fMo_number_63 at h
  refine lv_istore_n (lv' := [(1, .int k0), (0, .ref (a 0)), (2, .int v2)]) S.1 S.2.1 dX7_number_63 rfl hl (by decide) rfl (fun ls hl => ?_)
  obtain ⟨x2_1, ex2_1, h⟩ := nm_some h
  refine lv_iinc (v := x2_1) (lv' := [(2, .int x2_1), (1, .int k0), (0, .ref (a 0))]) S.1 S.2.1 dX7_number_64 hl (k := 2) rfl (by rw [ex2_1]; rfl) (by decide) rfl (fun ls hl => ?_)
  refine lv_aload_n S.1 S.2.1 dX7_number_67 rfl (lv_at hl 2 rfl) ?_
  refine lv_dup S.1 S.2.1 dX7_number_68 rfl ?_
  refine gMo_at S hK hW dX7_number_69 ?_
  refine lv_iconst (v := 1) S.1 S.2.1 dX7_number_72 (by decide) ?_
  refine lv_iadd S.1 S.2.1 dX7_number_73 ?_
  refine pMo_at S hK hW dX7_number_74 (fun H locs σ_2 eσ_2 hW => ?_)
  have h := nm_to eσ_2 h
  refine lv_goto (tgt := 4) S.1 S.2.1 dX7_number_77 (by decide) ?_
  exact hk_4 k0 x2_1 σ_2 _ _ _ h hW (lv_sub hl [2, 1, 0] rfl)
set_option maxHeartbeats 4000000 in
set_option maxRecDepth 100000 in
theorem wMo_number_97 {p : Program} {l : Launch} {e : Env} {s : State} {m : MethodId} {args : Array Value} {below : List Frame} {meth : Method} {c : Code} {A : Nat → Prop} {Q : State → Prop} {D : va_G} {cs : Nat → ClassId} {a : Nat → Nat} {Λ : Nat → Int64} {r : Int32} {σ' : St} {N : Nat} (S : Fx p m c cX7_number 3 s args RX7) (hK : va_K D vwCl (tyL cs) s) (hA : ∀ x, s.heap.size ≤ x → A x) (hQ : ∀ (H : Heap) (locs : List Loc) (pc : Nat) (ls : Array Slot), decode cX7_number pc = .ok (.ireturn, 1) → narrow .int (.int r) = .int r → Wd D A s.heap (wMo cs a σ' Λ) H locs → W p l e { frames := 1, cells := 0, slots := 0, locals := 25 } s m args below meth c H locs 0 0 Q (F0 m pc ls [.int r])) : ∀ (k0 : Int32) (σ : St) (H : Heap) (locs : List Loc) (ls : Array Slot), fMo_number_97 N k0 σ = some (r, σ') → Wd D A s.heap (wMo cs a σ Λ) H locs → lv_has ls 3 [] → W p l e { frames := 1, cells := 0, slots := 0, locals := 25 } s m args below meth c H locs 0 0 Q (F0 m 97 ls [.int k0]) := by
  intro k0 σ H locs ls h hW hl
  unfold fMo_number_97 at h
  obtain ⟨rfl, rfl⟩ := pr2 h
  exact hQ _ _ _ _ dX7_number_97 rfl hW
set_option maxHeartbeats 4000000 in
set_option maxRecDepth 100000 in
theorem wMo_number_80 {p : Program} {l : Launch} {e : Env} {s : State} {m : MethodId} {args : Array Value} {below : List Frame} {meth : Method} {c : Code} {A : Nat → Prop} {Q : State → Prop} {D : va_G} {cs : Nat → ClassId} {a : Nat → Nat} {Λ : Nat → Int64} {r : Int32} {σ' : St} {N : Nat} (S : Fx p m c cX7_number 3 s args RX7) (hK : va_K D vwCl (tyL cs) s) (hA : ∀ x, s.heap.size ≤ x → A x) (hQ : ∀ (H : Heap) (locs : List Loc) (pc : Nat) (ls : Array Slot), decode cX7_number pc = .ok (.ireturn, 1) → narrow .int (.int r) = .int r → Wd D A s.heap (wMo cs a σ' Λ) H locs → W p l e { frames := 1, cells := 0, slots := 0, locals := 25 } s m args below meth c H locs 0 0 Q (F0 m pc ls [.int r])) : ∀ (v1 : Int32) (v2 : Int32) (σ : St) (H : Heap) (locs : List Loc) (ls : Array Slot), fMo_number_80 N v1 v2 σ = some (r, σ') → Wd D A s.heap (wMo cs a σ Λ) H locs → lv_has ls 3 [(1, .int v1), (2, .int v2)] → W p l e { frames := 1, cells := 0, slots := 0, locals := 25 } s m args below meth c H locs 0 0 Q (F0 m 80 ls []) := by
  intro v1 v2 σ H locs ls h hW hl
  unfold fMo_number_80 at h
  refine lv_iload_n S.1 S.2.1 dX7_number_80 rfl (lv_at hl 1 rfl) ?_
  refine lv_i2l S.1 S.2.1 dX7_number_81 rfl ?_
  refine lv_lconst (v := 1) S.1 S.2.1 dX7_number_82 (by decide) ?_
  refine lv_ldc2 (v := 3) S.1 S.2.1 S.2.2.2.1 (S.2.2.2.2 _ q800) dX7_number_83 ?_
  obtain ⟨r_3, hc_4, h⟩ := cl1_some h
  refine kS_i (As := [.long (v2.toInt64), .long (1 : Int64), .long (3 : Int64)]) (rest := []) S hK hA (z := none) trivial [] (wMo cs a σ Λ) hW (cMo_in l D cs (v2.toInt64) (1 : Int64) (3 : Int64) N hc_4) lk_X7_80 q777 ⟨Nat.le_of_ble_eq_true rfl, Nat.le_of_ble_eq_true rfl⟩ rfl (Nat.le_of_ble_eq_true rfl) hl.1 dX7_number_86 ⟨Nat.zero_le _, Nat.zero_le _⟩ (fun H locs hW => ?_)
  have hW : Wd D A s.heap (wMo cs a σ Λ) H locs := hW
  refine lv_if_eq (tgt := 96) S.1 S.2.1 dX7_number_89 (by decide) (fun c_5 => ?_) (fun c_5 => ?_)
  · have h := ite_t c_5 h
    refine lv_iconst (v := -1) S.1 S.2.1 dX7_number_96 (by decide) ?_
    exact wMo_number_97 S hK hA hQ (-1 : Int32) σ _ _ _ h hW (lv_sub hl [] rfl)
  · have h := ite_f c_5 h
    refine lv_iload_n S.1 S.2.1 dX7_number_92 rfl (lv_at hl 0 rfl) ?_
    refine lv_goto (tgt := 97) S.1 S.2.1 dX7_number_93 (by decide) ?_
    exact wMo_number_97 S hK hA hQ v1 σ _ _ _ h hW (lv_sub hl [] rfl)
set_option maxHeartbeats 4000000 in
set_option maxRecDepth 100000 in
theorem wMo_number_4 {p : Program} {l : Launch} {e : Env} {s : State} {m : MethodId} {args : Array Value} {below : List Frame} {meth : Method} {c : Code} {A : Nat → Prop} {Q : State → Prop} {D : va_G} {cs : Nat → ClassId} {a : Nat → Nat} {Λ : Nat → Int64} {r : Int32} {σ' : St} {N : Nat} (S : Fx p m c cX7_number 3 s args RX7) (hK : va_K D vwCl (tyL cs) s) (hA : ∀ x, s.heap.size ≤ x → A x) (hQ : ∀ (H : Heap) (locs : List Loc) (pc : Nat) (ls : Array Slot), decode cX7_number pc = .ok (.ireturn, 1) → narrow .int (.int r) = .int r → Wd D A s.heap (wMo cs a σ' Λ) H locs → W p l e { frames := 1, cells := 0, slots := 0, locals := 25 } s m args below meth c H locs 0 0 Q (F0 m pc ls [.int r])) : ∀ (n_4 : Nat) (v1 : Int32) (v2 : Int32) (σ : St) (H : Heap) (locs : List Loc) (ls : Array Slot), fMo_number_4 N n_4 v1 v2 σ = some (r, σ') → Wd D A s.heap (wMo cs a σ Λ) H locs → lv_has ls 3 [(0, .ref (a 0)), (1, .int v1), (2, .int v2)] → W p l e { frames := 1, cells := 0, slots := 0, locals := 25 } s m args below meth c H locs 0 0 Q (F0 m 4 ls []) := by
  intro n_4
  induction n_4 with
  | zero =>
    intro v1 v2 σ H locs ls h
    cases h
  | succ n_4 ih =>
    intro v1 v2 σ H locs ls h hW hl
    unfold fMo_number_4 at h
    refine lv_aload_n S.1 S.2.1 dX7_number_4 rfl (lv_at hl 0 rfl) ?_
    refine gMo_at S hK hW dX7_number_5 ?_
    refine lv_aload_n S.1 S.2.1 dX7_number_8 rfl (lv_at hl 0 rfl) ?_
    refine gMo_length S hK hW dX7_number_9 ?_
    refine lv_icmp_ge (tgt := 80) S.1 S.2.1 dX7_number_12 (by decide) (fun c_6 => ?_) (fun c_6 => ?_)
    · have h := ite_t c_6 h
      exact wMo_number_80 S hK hA hQ v1 v2 σ _ _ _ h hW (lv_sub hl [1, 2] rfl)
    · have h := ite_f c_6 h
      refine lv_aload_n S.1 S.2.1 dX7_number_15 rfl (lv_at hl 0 rfl) ?_
      refine gMo_text S hK hW dX7_number_16 ?_
      refine lv_aload_n S.1 S.2.1 dX7_number_19 rfl (lv_at hl 0 rfl) ?_
      refine gMo_at S hK hW dX7_number_20 ?_
      obtain ⟨hi_7, h⟩ := gI_some h
      refine lMo_text S hK hW hi_7 dX7_number_23 ?_
      refine lv_i2l S.1 S.2.1 dX7_number_24 rfl ?_
      refine lv_ldc2 (v := 48) S.1 S.2.1 S.2.2.2.1 (S.2.2.2.2 _ q798) dX7_number_25 ?_
      refine lv_ldc2 (v := 57) S.1 S.2.1 S.2.2.2.1 (S.2.2.2.2 _ q799) dX7_number_28 ?_
      obtain ⟨r_8, hc_9, h⟩ := cl1_some h
      refine kS_i (As := [.long ((σ 2 (σ 0 2).toNatClampNeg).toInt64), .long (48 : Int64), .long (57 : Int64)]) (rest := []) S hK hA (z := none) trivial [] (wMo cs a σ Λ) hW (cMo_in l D cs ((σ 2 (σ 0 2).toNatClampNeg).toInt64) (48 : Int64) (57 : Int64) N hc_9) lk_X7_80 q777 ⟨Nat.le_of_ble_eq_true rfl, Nat.le_of_ble_eq_true rfl⟩ rfl (Nat.le_of_ble_eq_true rfl) hl.1 dX7_number_31 ⟨Nat.zero_le _, Nat.zero_le _⟩ (fun H locs hW => ?_)
      have hW : Wd D A s.heap (wMo cs a σ Λ) H locs := hW
      refine lv_if_eq (tgt := 80) S.1 S.2.1 dX7_number_34 (by decide) (fun c_10 => ?_) (fun c_10 => ?_)
      · have h := ite_t c_10 h
        exact wMo_number_80 S hK hA hQ v1 v2 σ _ _ _ h hW (lv_sub hl [1, 2] rfl)
      · have h := ite_f c_10 h
        refine lv_iload_n S.1 S.2.1 dX7_number_37 rfl (lv_at hl 2 rfl) ?_
        refine lv_iconst (v := 3) S.1 S.2.1 dX7_number_38 (by decide) ?_
        refine lv_icmp_ge (tgt := 62) S.1 S.2.1 dX7_number_39 (by decide) (fun c_11 => ?_) (fun c_11 => ?_)
        · have h := ite_t c_11 h
          refine lv_iload_n S.1 S.2.1 dX7_number_62 rfl (lv_at hl 1 rfl) ?_
          exact wMo_number_63 S hK hA hQ ih v2 v1 σ _ _ _ h hW (lv_sub hl [0, 2] rfl)
        · have h := ite_f c_11 h
          refine lv_bipush (v := 10) S.1 S.2.1 dX7_number_42 (by decide) ?_
          refine lv_iload_n S.1 S.2.1 dX7_number_44 rfl (lv_at hl 1 rfl) ?_
          refine lv_imul S.1 S.2.1 dX7_number_45 ?_
          refine lv_aload_n S.1 S.2.1 dX7_number_46 rfl (lv_at hl 0 rfl) ?_
          refine gMo_text S hK hW dX7_number_47 ?_
          refine lv_aload_n S.1 S.2.1 dX7_number_50 rfl (lv_at hl 0 rfl) ?_
          refine gMo_at S hK hW dX7_number_51 ?_
          obtain ⟨hi_12, h⟩ := gI_some h
          refine lMo_text S hK hW hi_12 dX7_number_54 ?_
          refine lv_iadd S.1 S.2.1 dX7_number_55 ?_
          refine lv_bipush (v := 48) S.1 S.2.1 dX7_number_56 (by decide) ?_
          refine lv_isub S.1 S.2.1 dX7_number_58 ?_
          refine lv_goto (tgt := 63) S.1 S.2.1 dX7_number_59 (by decide) ?_
          exact wMo_number_63 S hK hA hQ ih v2 ((((10 : Int32) * v1) + (σ 2 (σ 0 2).toNatClampNeg)) - (48 : Int32)) σ _ _ _ h hW (lv_sub hl [0, 2] rfl)
set_option maxHeartbeats 4000000 in
set_option maxRecDepth 100000 in
theorem cMo_number (l : Launch) (D : va_G) (cs : Nat → ClassId) (a : Nat → Nat) (σ : St) (Λ : Nat → Int64) (N : Nat) {r : Int32} {σ' : St} (h : fMo_number N σ = some (r, σ')) : Ki l D cs none yX7_number cX7_number 3 (some .int) 1 25 (wMo cs a σ Λ) [.ref (a 0)] r (wMo cs a σ' Λ) := by
  refine Ki_of (by decide +kernel) (Nat.le_of_ble_eq_true rfl) (fun p e s m below meth c A S hK hA hZ Q hQ ls hl hW => ?_)
  have hl : lv_has ls 3 [(0, .ref (a 0))] := hl
  unfold fMo_number at h
  refine lv_iconst (v := 0) S.1 S.2.1 dX7_number_0 (by decide) ?_
  refine lv_istore_n (lv' := [(1, .int (0 : Int32)), (0, .ref (a 0))]) S.1 S.2.1 dX7_number_1 rfl hl (by decide) rfl (fun ls hl => ?_)
  refine lv_iconst (v := 0) S.1 S.2.1 dX7_number_2 (by decide) ?_
  refine lv_istore_n (lv' := [(2, .int (0 : Int32)), (1, .int (0 : Int32)), (0, .ref (a 0))]) S.1 S.2.1 dX7_number_3 rfl hl (by decide) rfl (fun ls hl => ?_)
  exact wMo_number_4 S hK hA hQ N (0 : Int32) (0 : Int32) σ _ _ _ h hW (lv_sub hl [2, 1, 0] rfl)
set_option maxHeartbeats 4000000 in
set_option maxRecDepth 100000 in
theorem wMo_parts_50 {p : Program} {l : Launch} {e : Env} {s : State} {m : MethodId} {args : Array Value} {below : List Frame} {meth : Method} {c : Code} {A : Nat → Prop} {Q : State → Prop} {D : va_G} {cs : Nat → ClassId} {r : Int32} {N : Nat} (S : Fx p m c cX7_parts 1 s args RX7) (hK : va_K D vwCl (tyL cs) s) (hA : ∀ x, s.heap.size ≤ x → A x) (hQ : ∀ (H : Heap) (locs : List Loc) (pc : Nat) (ls : Array Slot), decode cX7_parts pc = .ok (.ireturn, 1) → narrow .int (.int r) = .int r → Wd D A s.heap [] H locs → W p l e { frames := 0, cells := 0, slots := 0, locals := 0 } s m args below meth c H locs 0 0 Q (F0 m pc ls [.int r])) : ∀ (k0 : Int32) (H : Heap) (locs : List Loc) (ls : Array Slot), fMo_parts_50 N k0 = some r → Wd D A s.heap [] H locs → lv_has ls 1 [] → W p l e { frames := 0, cells := 0, slots := 0, locals := 0 } s m args below meth c H locs 0 0 Q (F0 m 50 ls [.int k0]) := by
  intro k0 H locs ls h hW hl
  unfold fMo_parts_50 at h
  obtain rfl := pr1 h
  exact hQ _ _ _ _ dX7_parts_50 rfl hW
set_option maxHeartbeats 4000000 in
set_option maxRecDepth 100000 in
theorem wMo_parts_45 {p : Program} {l : Launch} {e : Env} {s : State} {m : MethodId} {args : Array Value} {below : List Frame} {meth : Method} {c : Code} {A : Nat → Prop} {Q : State → Prop} {D : va_G} {cs : Nat → ClassId} {r : Int32} {N : Nat} (S : Fx p m c cX7_parts 1 s args RX7) (hK : va_K D vwCl (tyL cs) s) (hA : ∀ x, s.heap.size ≤ x → A x) (hQ : ∀ (H : Heap) (locs : List Loc) (pc : Nat) (ls : Array Slot), decode cX7_parts pc = .ok (.ireturn, 1) → narrow .int (.int r) = .int r → Wd D A s.heap [] H locs → W p l e { frames := 0, cells := 0, slots := 0, locals := 0 } s m args below meth c H locs 0 0 Q (F0 m pc ls [.int r])) : ∀ (H : Heap) (locs : List Loc) (ls : Array Slot), fMo_parts_45 N = some r → Wd D A s.heap [] H locs → lv_has ls 1 [] → W p l e { frames := 0, cells := 0, slots := 0, locals := 0 } s m args below meth c H locs 0 0 Q (F0 m 45 ls []) := by
  intro  H locs ls h hW hl
  unfold fMo_parts_45 at h
  refine lv_iconst (v := 1) S.1 S.2.1 dX7_parts_45 (by decide) ?_
  refine lv_goto (tgt := 50) S.1 S.2.1 dX7_parts_46 (by decide) ?_
  exact wMo_parts_50 S hK hA hQ (1 : Int32) _ _ _ h hW (lv_sub hl [] rfl)
set_option maxHeartbeats 4000000 in
set_option maxRecDepth 100000 in
theorem cMo_parts (l : Launch) (D : va_G) (cs : Nat → ClassId) (p0 : Int32) (N : Nat) {r : Int32} (h : fMo_parts N p0 = some r) : Ki l D cs none yX7_parts cX7_parts 1 (some .int) 0 0 [] [.int p0] r [] := by
  refine Ki_of (by decide +kernel) (Nat.le_of_ble_eq_true rfl) (fun p e s m below meth c A S hK hA hZ Q hQ ls hl hW => ?_)
  have hl : lv_has ls 1 [(0, .int p0)] := hl
  unfold fMo_parts at h
  refine lv_iload_n S.1 S.2.1 dX7_parts_0 rfl (lv_at hl 0 rfl) ?_
  refine lv_bipush (v := 114) S.1 S.2.1 dX7_parts_1 (by decide) ?_
  refine lv_icmp_ne (tgt := 11) S.1 S.2.1 dX7_parts_3 (by decide) (fun c_1 => ?_) (fun c_1 => ?_)
  · have h := ite_f c_1 h
    refine lv_iload_n S.1 S.2.1 dX7_parts_11 rfl (lv_at hl 0 rfl) ?_
    refine lv_bipush (v := 99) S.1 S.2.1 dX7_parts_12 (by decide) ?_
    refine lv_icmp_ne (tgt := 21) S.1 S.2.1 dX7_parts_14 (by decide) (fun c_2 => ?_) (fun c_2 => ?_)
    · have h := ite_f c_2 h
      refine lv_iload_n S.1 S.2.1 dX7_parts_21 rfl (lv_at hl 0 rfl) ?_
      refine lv_bipush (v := 115) S.1 S.2.1 dX7_parts_22 (by decide) ?_
      refine lv_icmp_eq (tgt := 45) S.1 S.2.1 dX7_parts_24 (by decide) (fun c_3 => ?_) (fun c_3 => ?_)
      · have h := ite_t c_3 h
        exact wMo_parts_45 S hK hA hQ _ _ _ h hW (lv_sub hl [] rfl)
      · have h := ite_f c_3 h
        refine lv_iload_n S.1 S.2.1 dX7_parts_27 rfl (lv_at hl 0 rfl) ?_
        refine lv_bipush (v := 108) S.1 S.2.1 dX7_parts_28 (by decide) ?_
        refine lv_icmp_eq (tgt := 45) S.1 S.2.1 dX7_parts_30 (by decide) (fun c_4 => ?_) (fun c_4 => ?_)
        · have h := ite_t c_4 h
          exact wMo_parts_45 S hK hA hQ _ _ _ h hW (lv_sub hl [] rfl)
        · have h := ite_f c_4 h
          refine lv_iload_n S.1 S.2.1 dX7_parts_33 rfl (lv_at hl 0 rfl) ?_
          refine lv_bipush (v := 119) S.1 S.2.1 dX7_parts_34 (by decide) ?_
          refine lv_icmp_eq (tgt := 45) S.1 S.2.1 dX7_parts_36 (by decide) (fun c_5 => ?_) (fun c_5 => ?_)
          · have h := ite_t c_5 h
            exact wMo_parts_45 S hK hA hQ _ _ _ h hW (lv_sub hl [] rfl)
          · have h := ite_f c_5 h
            refine lv_iload_n S.1 S.2.1 dX7_parts_39 rfl (lv_at hl 0 rfl) ?_
            refine lv_bipush (v := 118) S.1 S.2.1 dX7_parts_40 (by decide) ?_
            refine lv_icmp_ne (tgt := 49) S.1 S.2.1 dX7_parts_42 (by decide) (fun c_6 => ?_) (fun c_6 => ?_)
            · have h := ite_f c_6 h
              refine lv_iconst (v := 0) S.1 S.2.1 dX7_parts_49 (by decide) ?_
              exact wMo_parts_50 S hK hA hQ (0 : Int32) _ _ _ h hW (lv_sub hl [] rfl)
            · have h := ite_t c_6 h
              exact wMo_parts_45 S hK hA hQ _ _ _ h hW (lv_sub hl [] rfl)
    · have h := ite_t c_2 h
      refine lv_iconst (v := 2) S.1 S.2.1 dX7_parts_17 (by decide) ?_
      refine lv_goto (tgt := 50) S.1 S.2.1 dX7_parts_18 (by decide) ?_
      exact wMo_parts_50 S hK hA hQ (2 : Int32) _ _ _ h hW (lv_sub hl [] rfl)
  · have h := ite_t c_1 h
    refine lv_bipush (v := 7) S.1 S.2.1 dX7_parts_6 (by decide) ?_
    refine lv_goto (tgt := 50) S.1 S.2.1 dX7_parts_8 (by decide) ?_
    exact wMo_parts_50 S hK hA hQ (7 : Int32) _ _ _ h hW (lv_sub hl [] rfl)
set_option maxHeartbeats 4000000 in
set_option maxRecDepth 100000 in
theorem cMo_isIn (l : Launch) (D : va_G) (cs : Nat → ClassId) (a : Nat → Nat) (σ : St) (Λ : Nat → Int64) (p0 : Int32) (p1 : Int32) (p2 : Int32) (N : Nat) {r : Int32} (h : fMo_isIn N p0 p1 p2 σ = some r) : Ki l D cs none yX7_isIn cX7_isIn 4 (some .boolean) 1 25 (wMo cs a σ Λ) [.ref (a 0), .int p0, .int p1, .int p2] r (wMo cs a σ Λ) := by
  refine Ki_of (by decide +kernel) (Nat.le_of_ble_eq_true rfl) (fun p e s m below meth c A S hK hA hZ Q hQ ls hl hW => ?_)
  have hl : lv_has ls 4 [(0, .ref (a 0)), (1, .int p0), (2, .int p1), (3, .int p2)] := hl
  unfold fMo_isIn at h
  refine lv_aload_n S.1 S.2.1 dX7_isIn_0 rfl (lv_at hl 0 rfl) ?_
  refine gMo_got S hK hW dX7_isIn_1 ?_
  refine lv_iload_n S.1 S.2.1 dX7_isIn_4 rfl (lv_at hl 1 rfl) ?_
  obtain ⟨hi_1, h⟩ := gI_some h
  refine lMo_got S hK hW hi_1 dX7_isIn_5 ?_
  refine lv_i2l S.1 S.2.1 dX7_isIn_6 rfl ?_
  refine lv_iload_n S.1 S.2.1 dX7_isIn_7 rfl (lv_at hl 2 rfl) ?_
  refine lv_i2l S.1 S.2.1 dX7_isIn_8 rfl ?_
  refine lv_iload_n S.1 S.2.1 dX7_isIn_9 rfl (lv_at hl 3 rfl) ?_
  refine lv_i2l S.1 S.2.1 dX7_isIn_10 rfl ?_
  obtain ⟨r_2, hc_3, h⟩ := cl1_some h
  refine kS_i (As := [.long ((σ 30 p0.toNatClampNeg).toInt64), .long (p1.toInt64), .long (p2.toInt64)]) (rest := []) S hK hA (z := none) trivial [] (wMo cs a σ Λ) hW (cMo_in l D cs ((σ 30 p0.toNatClampNeg).toInt64) (p1.toInt64) (p2.toInt64) N hc_3) lk_X7_80 q777 ⟨Nat.le_of_ble_eq_true rfl, Nat.le_of_ble_eq_true rfl⟩ rfl (Nat.le_of_ble_eq_true rfl) hl.1 dX7_isIn_11 ⟨Nat.zero_le _, Nat.zero_le _⟩ (fun H locs hW => ?_)
  have hW : Wd D A s.heap (wMo cs a σ Λ) H locs := hW
  obtain ⟨hb_4, h⟩ := gB_some h
  obtain rfl := pr1 h
  exact hQ _ _ _ _ dX7_isIn_14 hb_4 hW
set_option maxHeartbeats 4000000 in
set_option maxRecDepth 100000 in
theorem wMo_isGood_27 {p : Program} {l : Launch} {e : Env} {s : State} {m : MethodId} {args : Array Value} {below : List Frame} {meth : Method} {c : Code} {A : Nat → Prop} {Q : State → Prop} {D : va_G} {cs : Nat → ClassId} {a : Nat → Nat} {Λ : Nat → Int64} {r : Int32} {σ' : St} {N : Nat} (S : Fx p m c cX7_isGood 3 s args RX7) (hK : va_K D vwCl (tyL cs) s) (hA : ∀ x, s.heap.size ≤ x → A x) (hQ : ∀ (H : Heap) (locs : List Loc) (pc : Nat) (ls : Array Slot), decode cX7_isGood pc = .ok (.ireturn, 1) → narrow .boolean (.int r) = .int r → Wd D A s.heap (wMo cs a σ' Λ) H locs → W p l e { frames := 2, cells := 0, slots := 0, locals := 48 } s m args below meth c H locs 0 0 Q (F0 m pc ls [.int r])) : ∀ (σ : St) (H : Heap) (locs : List Loc) (ls : Array Slot), fMo_isGood_27 N σ = some (r, σ') → Wd D A s.heap (wMo cs a σ Λ) H locs → lv_has ls 3 [] → W p l e { frames := 2, cells := 0, slots := 0, locals := 48 } s m args below meth c H locs 0 0 Q (F0 m 27 ls []) := by
  intro σ H locs ls h hW hl
  unfold fMo_isGood_27 at h
  refine lv_iconst (v := 0) S.1 S.2.1 dX7_isGood_27 (by decide) ?_
  obtain ⟨rfl, rfl⟩ := pr2 h
  exact hQ _ _ _ _ dX7_isGood_28 rfl hW
set_option maxHeartbeats 4000000 in
set_option maxRecDepth 100000 in
theorem wMo_isGood_159 {p : Program} {l : Launch} {e : Env} {s : State} {m : MethodId} {args : Array Value} {below : List Frame} {meth : Method} {c : Code} {A : Nat → Prop} {Q : State → Prop} {D : va_G} {cs : Nat → ClassId} {a : Nat → Nat} {Λ : Nat → Int64} {r : Int32} {σ' : St} {N : Nat} (S : Fx p m c cX7_isGood 3 s args RX7) (hK : va_K D vwCl (tyL cs) s) (hA : ∀ x, s.heap.size ≤ x → A x) (hQ : ∀ (H : Heap) (locs : List Loc) (pc : Nat) (ls : Array Slot), decode cX7_isGood pc = .ok (.ireturn, 1) → narrow .boolean (.int r) = .int r → Wd D A s.heap (wMo cs a σ' Λ) H locs → W p l e { frames := 2, cells := 0, slots := 0, locals := 48 } s m args below meth c H locs 0 0 Q (F0 m pc ls [.int r])) : ∀ (σ : St) (H : Heap) (locs : List Loc) (ls : Array Slot), fMo_isGood_159 N σ = some (r, σ') → Wd D A s.heap (wMo cs a σ Λ) H locs → lv_has ls 3 [] → W p l e { frames := 2, cells := 0, slots := 0, locals := 48 } s m args below meth c H locs 0 0 Q (F0 m 159 ls []) := by
  intro σ H locs ls h hW hl
  unfold fMo_isGood_159 at h
  refine lv_iconst (v := 0) S.1 S.2.1 dX7_isGood_159 (by decide) ?_
  obtain ⟨rfl, rfl⟩ := pr2 h
  exact hQ _ _ _ _ dX7_isGood_160 rfl hW
set_option maxHeartbeats 4000000 in
set_option maxRecDepth 100000 in
theorem wMo_isGood_350 {p : Program} {l : Launch} {e : Env} {s : State} {m : MethodId} {args : Array Value} {below : List Frame} {meth : Method} {c : Code} {A : Nat → Prop} {Q : State → Prop} {D : va_G} {cs : Nat → ClassId} {a : Nat → Nat} {Λ : Nat → Int64} {r : Int32} {σ' : St} {N : Nat} (S : Fx p m c cX7_isGood 3 s args RX7) (hK : va_K D vwCl (tyL cs) s) (hA : ∀ x, s.heap.size ≤ x → A x) (hQ : ∀ (H : Heap) (locs : List Loc) (pc : Nat) (ls : Array Slot), decode cX7_isGood pc = .ok (.ireturn, 1) → narrow .boolean (.int r) = .int r → Wd D A s.heap (wMo cs a σ' Λ) H locs → W p l e { frames := 2, cells := 0, slots := 0, locals := 48 } s m args below meth c H locs 0 0 Q (F0 m pc ls [.int r])) : ∀ (σ : St) (H : Heap) (locs : List Loc) (ls : Array Slot), fMo_isGood_350 N σ = some (r, σ') → Wd D A s.heap (wMo cs a σ Λ) H locs → lv_has ls 3 [] → W p l e { frames := 2, cells := 0, slots := 0, locals := 48 } s m args below meth c H locs 0 0 Q (F0 m 350 ls []) := by
  intro σ H locs ls h hW hl
  unfold fMo_isGood_350 at h
  refine lv_iconst (v := 1) S.1 S.2.1 dX7_isGood_350 (by decide) ?_
  obtain ⟨rfl, rfl⟩ := pr2 h
  exact hQ _ _ _ _ dX7_isGood_351 rfl hW
set_option maxHeartbeats 4000000 in
set_option maxRecDepth 100000 in
theorem wMo_isGood_163 {p : Program} {l : Launch} {e : Env} {s : State} {m : MethodId} {args : Array Value} {below : List Frame} {meth : Method} {c : Code} {A : Nat → Prop} {Q : State → Prop} {D : va_G} {cs : Nat → ClassId} {a : Nat → Nat} {Λ : Nat → Int64} {r : Int32} {σ' : St} {N : Nat} (S : Fx p m c cX7_isGood 3 s args RX7) (hK : va_K D vwCl (tyL cs) s) (hA : ∀ x, s.heap.size ≤ x → A x) (hQ : ∀ (H : Heap) (locs : List Loc) (pc : Nat) (ls : Array Slot), decode cX7_isGood pc = .ok (.ireturn, 1) → narrow .boolean (.int r) = .int r → Wd D A s.heap (wMo cs a σ' Λ) H locs → W p l e { frames := 2, cells := 0, slots := 0, locals := 48 } s m args below meth c H locs 0 0 Q (F0 m pc ls [.int r])) : ∀ (n_163 : Nat) (v2 : Int32) (σ : St) (H : Heap) (locs : List Loc) (ls : Array Slot), fMo_isGood_163 N n_163 v2 σ = some (r, σ') → Wd D A s.heap (wMo cs a σ Λ) H locs → lv_has ls 3 [(0, .ref (a 0)), (2, .int v2)] → W p l e { frames := 2, cells := 0, slots := 0, locals := 48 } s m args below meth c H locs 0 0 Q (F0 m 163 ls []) := by
  intro n_163
  induction n_163 with
  | zero =>
    intro v2 σ H locs ls h
    cases h
  | succ n_163 ih =>
    intro v2 σ H locs ls h hW hl
    unfold fMo_isGood_163 at h
    refine lv_iload_n S.1 S.2.1 dX7_isGood_163 rfl (lv_at hl 1 rfl) ?_
    refine lv_bipush (v := 7) S.1 S.2.1 dX7_isGood_164 (by decide) ?_
    refine lv_icmp_ge (tgt := 200) S.1 S.2.1 dX7_isGood_166 (by decide) (fun c_1 => ?_) (fun c_1 => ?_)
    · have h := ite_t c_1 h
      refine lv_aload_n S.1 S.2.1 dX7_isGood_200 rfl (lv_at hl 0 rfl) ?_
      refine gMo_readers S hK hW dX7_isGood_201 ?_
      refine lv_iconst (v := 1) S.1 S.2.1 dX7_isGood_204 (by decide) ?_
      refine lv_dup2_11 S.1 S.2.1 dX7_isGood_205 rfl rfl ?_
      obtain ⟨hi_2, h⟩ := gI_some h
      refine lMo_readers S hK hW hi_2 dX7_isGood_206 ?_
      refine lv_iconst (v := 1) S.1 S.2.1 dX7_isGood_207 (by decide) ?_
      refine lv_iadd S.1 S.2.1 dX7_isGood_208 ?_
      obtain ⟨hi_3, h⟩ := gI_some h
      refine sMo_readers S hK hW hi_3 dX7_isGood_209 (fun H locs σ_4 eσ_4 hW => ?_)
      have h := nm_to eσ_4 h
      refine lv_goto (tgt := 350) S.1 S.2.1 dX7_isGood_210 (by decide) ?_
      exact wMo_isGood_350 S hK hA hQ σ_4 _ _ _ h hW (lv_sub hl [] rfl)
    · have h := ite_f c_1 h
      refine lv_aload_n S.1 S.2.1 dX7_isGood_169 rfl (lv_at hl 0 rfl) ?_
      refine gMo_reader S hK hW dX7_isGood_170 ?_
      refine lv_bipush (v := 56) S.1 S.2.1 dX7_isGood_173 (by decide) ?_
      refine lv_bipush (v := 7) S.1 S.2.1 dX7_isGood_175 (by decide) ?_
      refine lv_aload_n S.1 S.2.1 dX7_isGood_177 rfl (lv_at hl 0 rfl) ?_
      refine gMo_readers S hK hW dX7_isGood_178 ?_
      refine lv_iconst (v := 1) S.1 S.2.1 dX7_isGood_181 (by decide) ?_
      obtain ⟨hi_5, h⟩ := gI_some h
      refine lMo_readers S hK hW hi_5 dX7_isGood_182 ?_
      refine lv_imul S.1 S.2.1 dX7_isGood_183 ?_
      refine lv_iadd S.1 S.2.1 dX7_isGood_184 ?_
      refine lv_iload_n S.1 S.2.1 dX7_isGood_185 rfl (lv_at hl 1 rfl) ?_
      refine lv_iadd S.1 S.2.1 dX7_isGood_186 ?_
      refine lv_aload_n S.1 S.2.1 dX7_isGood_187 rfl (lv_at hl 0 rfl) ?_
      refine gMo_got S hK hW dX7_isGood_188 ?_
      refine lv_iload_n S.1 S.2.1 dX7_isGood_191 rfl (lv_at hl 1 rfl) ?_
      obtain ⟨hi_6, h⟩ := gI_some h
      refine lMo_got S hK hW hi_6 dX7_isGood_192 ?_
      obtain ⟨hi_7, h⟩ := gI_some h
      refine sMo_reader S hK hW hi_7 dX7_isGood_193 (fun H locs σ_8 eσ_8 hW => ?_)
      have h := nm_to eσ_8 h
      obtain ⟨x2_9, ex2_9, h⟩ := nm_some h
      refine lv_iinc (v := x2_9) (lv' := [(2, .int x2_9), (0, .ref (a 0))]) S.1 S.2.1 dX7_isGood_194 hl (k := 1) rfl (by rw [ex2_9]; rfl) (by decide) rfl (fun ls hl => ?_)
      refine lv_goto (tgt := 163) S.1 S.2.1 dX7_isGood_197 (by decide) ?_
      exact ih x2_9 σ_8 _ _ _ h hW (lv_sub hl [1, 0] rfl)
set_option maxHeartbeats 4000000 in
set_option maxRecDepth 100000 in
theorem wMo_isGood_271 {p : Program} {l : Launch} {e : Env} {s : State} {m : MethodId} {args : Array Value} {below : List Frame} {meth : Method} {c : Code} {A : Nat → Prop} {Q : State → Prop} {D : va_G} {cs : Nat → ClassId} {a : Nat → Nat} {Λ : Nat → Int64} {r : Int32} {σ' : St} {N : Nat} (S : Fx p m c cX7_isGood 3 s args RX7) (hK : va_K D vwCl (tyL cs) s) (hA : ∀ x, s.heap.size ≤ x → A x) (hQ : ∀ (H : Heap) (locs : List Loc) (pc : Nat) (ls : Array Slot), decode cX7_isGood pc = .ok (.ireturn, 1) → narrow .boolean (.int r) = .int r → Wd D A s.heap (wMo cs a σ' Λ) H locs → W p l e { frames := 2, cells := 0, slots := 0, locals := 48 } s m args below meth c H locs 0 0 Q (F0 m pc ls [.int r])) : ∀ (k0 : Int32) (σ : St) (H : Heap) (locs : List Loc) (ls : Array Slot), fMo_isGood_271 N k0 σ = some (r, σ') → Wd D A s.heap (wMo cs a σ Λ) H locs → lv_has ls 3 [] → W p l e { frames := 2, cells := 0, slots := 0, locals := 48 } s m args below meth c H locs 0 0 Q (F0 m 271 ls [.int k0]) := by
  intro k0 σ H locs ls h hW hl
  unfold fMo_isGood_271 at h
  obtain ⟨hb_10, h⟩ := gB_some h
  obtain ⟨rfl, rfl⟩ := pr2 h
  exact hQ _ _ _ _ dX7_isGood_271 hb_10 hW
set_option maxHeartbeats 4000000 in
set_option maxRecDepth 100000 in
theorem wMo_isGood_270 {p : Program} {l : Launch} {e : Env} {s : State} {m : MethodId} {args : Array Value} {below : List Frame} {meth : Method} {c : Code} {A : Nat → Prop} {Q : State → Prop} {D : va_G} {cs : Nat → ClassId} {a : Nat → Nat} {Λ : Nat → Int64} {r : Int32} {σ' : St} {N : Nat} (S : Fx p m c cX7_isGood 3 s args RX7) (hK : va_K D vwCl (tyL cs) s) (hA : ∀ x, s.heap.size ≤ x → A x) (hQ : ∀ (H : Heap) (locs : List Loc) (pc : Nat) (ls : Array Slot), decode cX7_isGood pc = .ok (.ireturn, 1) → narrow .boolean (.int r) = .int r → Wd D A s.heap (wMo cs a σ' Λ) H locs → W p l e { frames := 2, cells := 0, slots := 0, locals := 48 } s m args below meth c H locs 0 0 Q (F0 m pc ls [.int r])) : ∀ (σ : St) (H : Heap) (locs : List Loc) (ls : Array Slot), fMo_isGood_270 N σ = some (r, σ') → Wd D A s.heap (wMo cs a σ Λ) H locs → lv_has ls 3 [] → W p l e { frames := 2, cells := 0, slots := 0, locals := 48 } s m args below meth c H locs 0 0 Q (F0 m 270 ls []) := by
  intro σ H locs ls h hW hl
  unfold fMo_isGood_270 at h
  refine lv_iconst (v := 0) S.1 S.2.1 dX7_isGood_270 (by decide) ?_
  exact wMo_isGood_271 S hK hA hQ (0 : Int32) σ _ _ _ h hW (lv_sub hl [] rfl)
set_option maxHeartbeats 4000000 in
set_option maxRecDepth 100000 in
theorem cMo_isGood (l : Launch) (D : va_G) (cs : Nat → ClassId) (a : Nat → Nat) (σ : St) (Λ : Nat → Int64) (p0 : Int32) (N : Nat) {r : Int32} {σ' : St} (h : fMo_isGood N p0 σ = some (r, σ')) : Ki l D cs none yX7_isGood cX7_isGood 3 (some .boolean) 2 48 (wMo cs a σ Λ) [.ref (a 0), .int p0] r (wMo cs a σ' Λ) := by
  refine Ki_of (by decide +kernel) (Nat.le_of_ble_eq_true rfl) (fun p e s m below meth c A S hK hA hZ Q hQ ls hl hW => ?_)
  have hl : lv_has ls 3 [(0, .ref (a 0)), (1, .int p0)] := hl
  unfold fMo_isGood at h
  refine lv_iload_n S.1 S.2.1 dX7_isGood_0 rfl (lv_at hl 1 rfl) ?_
  refine lv_bipush (v := 115) S.1 S.2.1 dX7_isGood_1 (by decide) ?_
  refine lv_icmp_ne (tgt := 62) S.1 S.2.1 dX7_isGood_3 (by decide) (fun c_11 => ?_) (fun c_11 => ?_)
  · have h := ite_f c_11 h
    refine lv_iload_n S.1 S.2.1 dX7_isGood_62 rfl (lv_at hl 1 rfl) ?_
    refine lv_bipush (v := 114) S.1 S.2.1 dX7_isGood_63 (by decide) ?_
    refine lv_icmp_ne (tgt := 213) S.1 S.2.1 dX7_isGood_65 (by decide) (fun c_12 => ?_) (fun c_12 => ?_)
    · have h := ite_f c_12 h
      refine lv_iload_n S.1 S.2.1 dX7_isGood_213 rfl (lv_at hl 1 rfl) ?_
      refine lv_bipush (v := 99) S.1 S.2.1 dX7_isGood_214 (by decide) ?_
      refine lv_icmp_ne (tgt := 272) S.1 S.2.1 dX7_isGood_216 (by decide) (fun c_13 => ?_) (fun c_13 => ?_)
      · have h := ite_f c_13 h
        refine lv_iload_n S.1 S.2.1 dX7_isGood_272 rfl (lv_at hl 1 rfl) ?_
        refine lv_bipush (v := 108) S.1 S.2.1 dX7_isGood_273 (by decide) ?_
        refine lv_icmp_ne (tgt := 300) S.1 S.2.1 dX7_isGood_275 (by decide) (fun c_14 => ?_) (fun c_14 => ?_)
        · have h := ite_f c_14 h
          refine lv_iload_n S.1 S.2.1 dX7_isGood_300 rfl (lv_at hl 1 rfl) ?_
          refine lv_bipush (v := 119) S.1 S.2.1 dX7_isGood_301 (by decide) ?_
          refine lv_icmp_ne (tgt := 328) S.1 S.2.1 dX7_isGood_303 (by decide) (fun c_15 => ?_) (fun c_15 => ?_)
          · have h := ite_f c_15 h
            refine lv_aload_n S.1 S.2.1 dX7_isGood_328 rfl (lv_at hl 0 rfl) ?_
            refine gMo_told S hK hW dX7_isGood_329 ?_
            refine lv_bipush (v := 9) S.1 S.2.1 dX7_isGood_332 (by decide) ?_
            refine lv_aload_n S.1 S.2.1 dX7_isGood_334 rfl (lv_at hl 0 rfl) ?_
            refine gMo_got S hK hW dX7_isGood_335 ?_
            refine lv_iconst (v := 0) S.1 S.2.1 dX7_isGood_338 (by decide) ?_
            obtain ⟨hi_16, h⟩ := gI_some h
            refine lMo_got S hK hW hi_16 dX7_isGood_339 ?_
            obtain ⟨hi_17, h⟩ := gI_some h
            refine sMo_told S hK hW hi_17 dX7_isGood_340 (fun H locs σ_18 eσ_18 hW => ?_)
            have h := nm_to eσ_18 h
            refine lv_aload_n S.1 S.2.1 dX7_isGood_341 rfl (lv_at hl 0 rfl) ?_
            refine lv_iconst (v := 0) S.1 S.2.1 dX7_isGood_342 (by decide) ?_
            refine lv_iconst (v := 0) S.1 S.2.1 dX7_isGood_343 (by decide) ?_
            refine lv_bipush (v := 30) S.1 S.2.1 dX7_isGood_344 (by decide) ?_
            obtain ⟨r_19, hc_20, h⟩ := cl1_some h
            have hW := kw_same hW
            refine kV_i (As := [.int (0 : Int32), .int (0 : Int32), .int (30 : Int32)]) (rest := []) S hK hA (z := none) trivial [] [] hW (cMo_isIn l D cs a σ_18 Λ (0 : Int32) (0 : Int32) (30 : Int32) N hc_20) (ci := 6) rfl rfl lk_X7_109 q807 q24 ⟨Nat.le_of_ble_eq_true rfl, Nat.le_of_ble_eq_true rfl⟩ rfl (Nat.le_of_ble_eq_true rfl) hl.1 dX7_isGood_346 ⟨Nat.zero_le _, Nat.zero_le _⟩ (fun H locs hW => ?_)
            have hW : Wd D A s.heap (wMo cs a σ_18 Λ) H locs := kw_back hW
            obtain ⟨hb_21, h⟩ := gB_some h
            obtain ⟨rfl, rfl⟩ := pr2 h
            exact hQ _ _ _ _ dX7_isGood_349 hb_21 hW
          · have h := ite_t c_15 h
            refine lv_aload_n S.1 S.2.1 dX7_isGood_306 rfl (lv_at hl 0 rfl) ?_
            refine gMo_told S hK hW dX7_isGood_307 ?_
            refine lv_bipush (v := 8) S.1 S.2.1 dX7_isGood_310 (by decide) ?_
            refine lv_aload_n S.1 S.2.1 dX7_isGood_312 rfl (lv_at hl 0 rfl) ?_
            refine gMo_got S hK hW dX7_isGood_313 ?_
            refine lv_iconst (v := 0) S.1 S.2.1 dX7_isGood_316 (by decide) ?_
            obtain ⟨hi_22, h⟩ := gI_some h
            refine lMo_got S hK hW hi_22 dX7_isGood_317 ?_
            obtain ⟨hi_23, h⟩ := gI_some h
            refine sMo_told S hK hW hi_23 dX7_isGood_318 (fun H locs σ_24 eσ_24 hW => ?_)
            have h := nm_to eσ_24 h
            refine lv_aload_n S.1 S.2.1 dX7_isGood_319 rfl (lv_at hl 0 rfl) ?_
            refine lv_iconst (v := 0) S.1 S.2.1 dX7_isGood_320 (by decide) ?_
            refine lv_iconst (v := 0) S.1 S.2.1 dX7_isGood_321 (by decide) ?_
            refine lv_bipush (v := 99) S.1 S.2.1 dX7_isGood_322 (by decide) ?_
            obtain ⟨r_25, hc_26, h⟩ := cl1_some h
            have hW := kw_same hW
            refine kV_i (As := [.int (0 : Int32), .int (0 : Int32), .int (99 : Int32)]) (rest := []) S hK hA (z := none) trivial [] [] hW (cMo_isIn l D cs a σ_24 Λ (0 : Int32) (0 : Int32) (99 : Int32) N hc_26) (ci := 6) rfl rfl lk_X7_109 q807 q24 ⟨Nat.le_of_ble_eq_true rfl, Nat.le_of_ble_eq_true rfl⟩ rfl (Nat.le_of_ble_eq_true rfl) hl.1 dX7_isGood_324 ⟨Nat.zero_le _, Nat.zero_le _⟩ (fun H locs hW => ?_)
            have hW : Wd D A s.heap (wMo cs a σ_24 Λ) H locs := kw_back hW
            obtain ⟨hb_27, h⟩ := gB_some h
            obtain ⟨rfl, rfl⟩ := pr2 h
            exact hQ _ _ _ _ dX7_isGood_327 hb_27 hW
        · have h := ite_t c_14 h
          refine lv_aload_n S.1 S.2.1 dX7_isGood_278 rfl (lv_at hl 0 rfl) ?_
          refine gMo_told S hK hW dX7_isGood_279 ?_
          refine lv_bipush (v := 7) S.1 S.2.1 dX7_isGood_282 (by decide) ?_
          refine lv_aload_n S.1 S.2.1 dX7_isGood_284 rfl (lv_at hl 0 rfl) ?_
          refine gMo_got S hK hW dX7_isGood_285 ?_
          refine lv_iconst (v := 0) S.1 S.2.1 dX7_isGood_288 (by decide) ?_
          obtain ⟨hi_28, h⟩ := gI_some h
          refine lMo_got S hK hW hi_28 dX7_isGood_289 ?_
          obtain ⟨hi_29, h⟩ := gI_some h
          refine sMo_told S hK hW hi_29 dX7_isGood_290 (fun H locs σ_30 eσ_30 hW => ?_)
          have h := nm_to eσ_30 h
          refine lv_aload_n S.1 S.2.1 dX7_isGood_291 rfl (lv_at hl 0 rfl) ?_
          refine lv_iconst (v := 0) S.1 S.2.1 dX7_isGood_292 (by decide) ?_
          refine lv_iconst (v := 1) S.1 S.2.1 dX7_isGood_293 (by decide) ?_
          refine lv_bipush (v := 99) S.1 S.2.1 dX7_isGood_294 (by decide) ?_
          obtain ⟨r_31, hc_32, h⟩ := cl1_some h
          have hW := kw_same hW
          refine kV_i (As := [.int (0 : Int32), .int (1 : Int32), .int (99 : Int32)]) (rest := []) S hK hA (z := none) trivial [] [] hW (cMo_isIn l D cs a σ_30 Λ (0 : Int32) (1 : Int32) (99 : Int32) N hc_32) (ci := 6) rfl rfl lk_X7_109 q807 q24 ⟨Nat.le_of_ble_eq_true rfl, Nat.le_of_ble_eq_true rfl⟩ rfl (Nat.le_of_ble_eq_true rfl) hl.1 dX7_isGood_296 ⟨Nat.zero_le _, Nat.zero_le _⟩ (fun H locs hW => ?_)
          have hW : Wd D A s.heap (wMo cs a σ_30 Λ) H locs := kw_back hW
          obtain ⟨hb_33, h⟩ := gB_some h
          obtain ⟨rfl, rfl⟩ := pr2 h
          exact hQ _ _ _ _ dX7_isGood_299 hb_33 hW
      · have h := ite_t c_13 h
        refine lv_aload_n S.1 S.2.1 dX7_isGood_219 rfl (lv_at hl 0 rfl) ?_
        refine gMo_told S hK hW dX7_isGood_220 ?_
        refine lv_iconst (v := 5) S.1 S.2.1 dX7_isGood_223 (by decide) ?_
        refine lv_aload_n S.1 S.2.1 dX7_isGood_224 rfl (lv_at hl 0 rfl) ?_
        refine gMo_got S hK hW dX7_isGood_225 ?_
        refine lv_iconst (v := 0) S.1 S.2.1 dX7_isGood_228 (by decide) ?_
        obtain ⟨hi_34, h⟩ := gI_some h
        refine lMo_got S hK hW hi_34 dX7_isGood_229 ?_
        obtain ⟨hi_35, h⟩ := gI_some h
        refine sMo_told S hK hW hi_35 dX7_isGood_230 (fun H locs σ_36 eσ_36 hW => ?_)
        have h := nm_to eσ_36 h
        refine lv_aload_n S.1 S.2.1 dX7_isGood_231 rfl (lv_at hl 0 rfl) ?_
        refine gMo_told S hK hW dX7_isGood_232 ?_
        refine lv_bipush (v := 6) S.1 S.2.1 dX7_isGood_235 (by decide) ?_
        refine lv_aload_n S.1 S.2.1 dX7_isGood_237 rfl (lv_at hl 0 rfl) ?_
        refine gMo_got S hK hW dX7_isGood_238 ?_
        refine lv_iconst (v := 1) S.1 S.2.1 dX7_isGood_241 (by decide) ?_
        obtain ⟨hi_37, h⟩ := gI_some h
        refine lMo_got S hK hW hi_37 dX7_isGood_242 ?_
        obtain ⟨hi_38, h⟩ := gI_some h
        refine sMo_told S hK hW hi_38 dX7_isGood_243 (fun H locs σ_39 eσ_39 hW => ?_)
        have h := nm_to eσ_39 h
        refine lv_aload_n S.1 S.2.1 dX7_isGood_244 rfl (lv_at hl 0 rfl) ?_
        refine lv_iconst (v := 0) S.1 S.2.1 dX7_isGood_245 (by decide) ?_
        refine lv_iconst (v := 1) S.1 S.2.1 dX7_isGood_246 (by decide) ?_
        refine lv_bipush (v := 99) S.1 S.2.1 dX7_isGood_247 (by decide) ?_
        obtain ⟨r_40, hc_41, h⟩ := cl1_some h
        have hW := kw_same hW
        refine kV_i (As := [.int (0 : Int32), .int (1 : Int32), .int (99 : Int32)]) (rest := []) S hK hA (z := none) trivial [] [] hW (cMo_isIn l D cs a σ_39 Λ (0 : Int32) (1 : Int32) (99 : Int32) N hc_41) (ci := 6) rfl rfl lk_X7_109 q807 q24 ⟨Nat.le_of_ble_eq_true rfl, Nat.le_of_ble_eq_true rfl⟩ rfl (Nat.le_of_ble_eq_true rfl) hl.1 dX7_isGood_249 ⟨Nat.zero_le _, Nat.zero_le _⟩ (fun H locs hW => ?_)
        have hW : Wd D A s.heap (wMo cs a σ_39 Λ) H locs := kw_back hW
        refine lv_if_eq (tgt := 270) S.1 S.2.1 dX7_isGood_252 (by decide) (fun c_42 => ?_) (fun c_42 => ?_)
        · have h := ite_t c_42 h
          exact wMo_isGood_270 S hK hA hQ σ_39 _ _ _ h hW (lv_sub hl [] rfl)
        · have h := ite_f c_42 h
          refine lv_aload_n S.1 S.2.1 dX7_isGood_255 rfl (lv_at hl 0 rfl) ?_
          refine lv_iconst (v := 1) S.1 S.2.1 dX7_isGood_256 (by decide) ?_
          refine lv_iconst (v := 1) S.1 S.2.1 dX7_isGood_257 (by decide) ?_
          refine lv_bipush (v := 99) S.1 S.2.1 dX7_isGood_258 (by decide) ?_
          obtain ⟨r_43, hc_44, h⟩ := cl1_some h
          have hW := kw_same hW
          refine kV_i (As := [.int (1 : Int32), .int (1 : Int32), .int (99 : Int32)]) (rest := []) S hK hA (z := none) trivial [] [] hW (cMo_isIn l D cs a σ_39 Λ (1 : Int32) (1 : Int32) (99 : Int32) N hc_44) (ci := 6) rfl rfl lk_X7_109 q807 q24 ⟨Nat.le_of_ble_eq_true rfl, Nat.le_of_ble_eq_true rfl⟩ rfl (Nat.le_of_ble_eq_true rfl) hl.1 dX7_isGood_260 ⟨Nat.zero_le _, Nat.zero_le _⟩ (fun H locs hW => ?_)
          have hW : Wd D A s.heap (wMo cs a σ_39 Λ) H locs := kw_back hW
          refine lv_if_eq (tgt := 270) S.1 S.2.1 dX7_isGood_263 (by decide) (fun c_45 => ?_) (fun c_45 => ?_)
          · have h := ite_t c_45 h
            exact wMo_isGood_270 S hK hA hQ σ_39 _ _ _ h hW (lv_sub hl [] rfl)
          · have h := ite_f c_45 h
            refine lv_iconst (v := 1) S.1 S.2.1 dX7_isGood_266 (by decide) ?_
            refine lv_goto (tgt := 271) S.1 S.2.1 dX7_isGood_267 (by decide) ?_
            exact wMo_isGood_271 S hK hA hQ (1 : Int32) σ_39 _ _ _ h hW (lv_sub hl [] rfl)
    · have h := ite_t c_12 h
      refine lv_aload_n S.1 S.2.1 dX7_isGood_68 rfl (lv_at hl 0 rfl) ?_
      refine lv_iconst (v := 0) S.1 S.2.1 dX7_isGood_69 (by decide) ?_
      refine lv_iconst (v := 0) S.1 S.2.1 dX7_isGood_70 (by decide) ?_
      refine lv_sipush (v := 199) S.1 S.2.1 dX7_isGood_71 (by decide) ?_
      obtain ⟨r_46, hc_47, h⟩ := cl1_some h
      have hW := kw_same hW
      refine kV_i (As := [.int (0 : Int32), .int (0 : Int32), .int (199 : Int32)]) (rest := []) S hK hA (z := none) trivial [] [] hW (cMo_isIn l D cs a σ Λ (0 : Int32) (0 : Int32) (199 : Int32) N hc_47) (ci := 6) rfl rfl lk_X7_109 q807 q24 ⟨Nat.le_of_ble_eq_true rfl, Nat.le_of_ble_eq_true rfl⟩ rfl (Nat.le_of_ble_eq_true rfl) hl.1 dX7_isGood_74 ⟨Nat.zero_le _, Nat.zero_le _⟩ (fun H locs hW => ?_)
      have hW : Wd D A s.heap (wMo cs a σ Λ) H locs := kw_back hW
      refine lv_if_eq (tgt := 159) S.1 S.2.1 dX7_isGood_77 (by decide) (fun c_48 => ?_) (fun c_48 => ?_)
      · have h := ite_t c_48 h
        exact wMo_isGood_159 S hK hA hQ σ _ _ _ h hW (lv_sub hl [] rfl)
      · have h := ite_f c_48 h
        refine lv_aload_n S.1 S.2.1 dX7_isGood_80 rfl (lv_at hl 0 rfl) ?_
        refine lv_iconst (v := 1) S.1 S.2.1 dX7_isGood_81 (by decide) ?_
        refine lv_iconst (v := 1) S.1 S.2.1 dX7_isGood_82 (by decide) ?_
        refine lv_sipush (v := 199) S.1 S.2.1 dX7_isGood_83 (by decide) ?_
        obtain ⟨r_49, hc_50, h⟩ := cl1_some h
        have hW := kw_same hW
        refine kV_i (As := [.int (1 : Int32), .int (1 : Int32), .int (199 : Int32)]) (rest := []) S hK hA (z := none) trivial [] [] hW (cMo_isIn l D cs a σ Λ (1 : Int32) (1 : Int32) (199 : Int32) N hc_50) (ci := 6) rfl rfl lk_X7_109 q807 q24 ⟨Nat.le_of_ble_eq_true rfl, Nat.le_of_ble_eq_true rfl⟩ rfl (Nat.le_of_ble_eq_true rfl) hl.1 dX7_isGood_86 ⟨Nat.zero_le _, Nat.zero_le _⟩ (fun H locs hW => ?_)
        have hW : Wd D A s.heap (wMo cs a σ Λ) H locs := kw_back hW
        refine lv_if_eq (tgt := 159) S.1 S.2.1 dX7_isGood_89 (by decide) (fun c_51 => ?_) (fun c_51 => ?_)
        · have h := ite_t c_51 h
          exact wMo_isGood_159 S hK hA hQ σ _ _ _ h hW (lv_sub hl [] rfl)
        · have h := ite_f c_51 h
          refine lv_aload_n S.1 S.2.1 dX7_isGood_92 rfl (lv_at hl 0 rfl) ?_
          refine lv_iconst (v := 2) S.1 S.2.1 dX7_isGood_93 (by decide) ?_
          refine lv_iconst (v := 1) S.1 S.2.1 dX7_isGood_94 (by decide) ?_
          refine lv_sipush (v := 199) S.1 S.2.1 dX7_isGood_95 (by decide) ?_
          obtain ⟨r_52, hc_53, h⟩ := cl1_some h
          have hW := kw_same hW
          refine kV_i (As := [.int (2 : Int32), .int (1 : Int32), .int (199 : Int32)]) (rest := []) S hK hA (z := none) trivial [] [] hW (cMo_isIn l D cs a σ Λ (2 : Int32) (1 : Int32) (199 : Int32) N hc_53) (ci := 6) rfl rfl lk_X7_109 q807 q24 ⟨Nat.le_of_ble_eq_true rfl, Nat.le_of_ble_eq_true rfl⟩ rfl (Nat.le_of_ble_eq_true rfl) hl.1 dX7_isGood_98 ⟨Nat.zero_le _, Nat.zero_le _⟩ (fun H locs hW => ?_)
          have hW : Wd D A s.heap (wMo cs a σ Λ) H locs := kw_back hW
          refine lv_if_eq (tgt := 159) S.1 S.2.1 dX7_isGood_101 (by decide) (fun c_54 => ?_) (fun c_54 => ?_)
          · have h := ite_t c_54 h
            exact wMo_isGood_159 S hK hA hQ σ _ _ _ h hW (lv_sub hl [] rfl)
          · have h := ite_f c_54 h
            refine lv_aload_n S.1 S.2.1 dX7_isGood_104 rfl (lv_at hl 0 rfl) ?_
            refine lv_iconst (v := 3) S.1 S.2.1 dX7_isGood_105 (by decide) ?_
            refine lv_iconst (v := 1) S.1 S.2.1 dX7_isGood_106 (by decide) ?_
            refine lv_bipush (v := 99) S.1 S.2.1 dX7_isGood_107 (by decide) ?_
            obtain ⟨r_55, hc_56, h⟩ := cl1_some h
            have hW := kw_same hW
            refine kV_i (As := [.int (3 : Int32), .int (1 : Int32), .int (99 : Int32)]) (rest := []) S hK hA (z := none) trivial [] [] hW (cMo_isIn l D cs a σ Λ (3 : Int32) (1 : Int32) (99 : Int32) N hc_56) (ci := 6) rfl rfl lk_X7_109 q807 q24 ⟨Nat.le_of_ble_eq_true rfl, Nat.le_of_ble_eq_true rfl⟩ rfl (Nat.le_of_ble_eq_true rfl) hl.1 dX7_isGood_109 ⟨Nat.zero_le _, Nat.zero_le _⟩ (fun H locs hW => ?_)
            have hW : Wd D A s.heap (wMo cs a σ Λ) H locs := kw_back hW
            refine lv_if_eq (tgt := 159) S.1 S.2.1 dX7_isGood_112 (by decide) (fun c_57 => ?_) (fun c_57 => ?_)
            · have h := ite_t c_57 h
              exact wMo_isGood_159 S hK hA hQ σ _ _ _ h hW (lv_sub hl [] rfl)
            · have h := ite_f c_57 h
              refine lv_aload_n S.1 S.2.1 dX7_isGood_115 rfl (lv_at hl 0 rfl) ?_
              refine lv_iconst (v := 4) S.1 S.2.1 dX7_isGood_116 (by decide) ?_
              refine lv_iconst (v := 0) S.1 S.2.1 dX7_isGood_117 (by decide) ?_
              refine lv_iconst (v := 3) S.1 S.2.1 dX7_isGood_118 (by decide) ?_
              obtain ⟨r_58, hc_59, h⟩ := cl1_some h
              have hW := kw_same hW
              refine kV_i (As := [.int (4 : Int32), .int (0 : Int32), .int (3 : Int32)]) (rest := []) S hK hA (z := none) trivial [] [] hW (cMo_isIn l D cs a σ Λ (4 : Int32) (0 : Int32) (3 : Int32) N hc_59) (ci := 6) rfl rfl lk_X7_109 q807 q24 ⟨Nat.le_of_ble_eq_true rfl, Nat.le_of_ble_eq_true rfl⟩ rfl (Nat.le_of_ble_eq_true rfl) hl.1 dX7_isGood_119 ⟨Nat.zero_le _, Nat.zero_le _⟩ (fun H locs hW => ?_)
              have hW : Wd D A s.heap (wMo cs a σ Λ) H locs := kw_back hW
              refine lv_if_eq (tgt := 159) S.1 S.2.1 dX7_isGood_122 (by decide) (fun c_60 => ?_) (fun c_60 => ?_)
              · have h := ite_t c_60 h
                exact wMo_isGood_159 S hK hA hQ σ _ _ _ h hW (lv_sub hl [] rfl)
              · have h := ite_f c_60 h
                refine lv_aload_n S.1 S.2.1 dX7_isGood_125 rfl (lv_at hl 0 rfl) ?_
                refine lv_iconst (v := 5) S.1 S.2.1 dX7_isGood_126 (by decide) ?_
                refine lv_iconst (v := 0) S.1 S.2.1 dX7_isGood_127 (by decide) ?_
                refine lv_bipush (v := 9) S.1 S.2.1 dX7_isGood_128 (by decide) ?_
                obtain ⟨r_61, hc_62, h⟩ := cl1_some h
                have hW := kw_same hW
                refine kV_i (As := [.int (5 : Int32), .int (0 : Int32), .int (9 : Int32)]) (rest := []) S hK hA (z := none) trivial [] [] hW (cMo_isIn l D cs a σ Λ (5 : Int32) (0 : Int32) (9 : Int32) N hc_62) (ci := 6) rfl rfl lk_X7_109 q807 q24 ⟨Nat.le_of_ble_eq_true rfl, Nat.le_of_ble_eq_true rfl⟩ rfl (Nat.le_of_ble_eq_true rfl) hl.1 dX7_isGood_130 ⟨Nat.zero_le _, Nat.zero_le _⟩ (fun H locs hW => ?_)
                have hW : Wd D A s.heap (wMo cs a σ Λ) H locs := kw_back hW
                refine lv_if_eq (tgt := 159) S.1 S.2.1 dX7_isGood_133 (by decide) (fun c_63 => ?_) (fun c_63 => ?_)
                · have h := ite_t c_63 h
                  exact wMo_isGood_159 S hK hA hQ σ _ _ _ h hW (lv_sub hl [] rfl)
                · have h := ite_f c_63 h
                  refine lv_aload_n S.1 S.2.1 dX7_isGood_136 rfl (lv_at hl 0 rfl) ?_
                  refine lv_bipush (v := 6) S.1 S.2.1 dX7_isGood_137 (by decide) ?_
                  refine lv_iconst (v := 0) S.1 S.2.1 dX7_isGood_139 (by decide) ?_
                  refine lv_bipush (v := 9) S.1 S.2.1 dX7_isGood_140 (by decide) ?_
                  obtain ⟨r_64, hc_65, h⟩ := cl1_some h
                  have hW := kw_same hW
                  refine kV_i (As := [.int (6 : Int32), .int (0 : Int32), .int (9 : Int32)]) (rest := []) S hK hA (z := none) trivial [] [] hW (cMo_isIn l D cs a σ Λ (6 : Int32) (0 : Int32) (9 : Int32) N hc_65) (ci := 6) rfl rfl lk_X7_109 q807 q24 ⟨Nat.le_of_ble_eq_true rfl, Nat.le_of_ble_eq_true rfl⟩ rfl (Nat.le_of_ble_eq_true rfl) hl.1 dX7_isGood_142 ⟨Nat.zero_le _, Nat.zero_le _⟩ (fun H locs hW => ?_)
                  have hW : Wd D A s.heap (wMo cs a σ Λ) H locs := kw_back hW
                  refine lv_if_eq (tgt := 159) S.1 S.2.1 dX7_isGood_145 (by decide) (fun c_66 => ?_) (fun c_66 => ?_)
                  · have h := ite_t c_66 h
                    exact wMo_isGood_159 S hK hA hQ σ _ _ _ h hW (lv_sub hl [] rfl)
                  · have h := ite_f c_66 h
                    refine lv_aload_n S.1 S.2.1 dX7_isGood_148 rfl (lv_at hl 0 rfl) ?_
                    refine gMo_readers S hK hW dX7_isGood_149 ?_
                    refine lv_iconst (v := 1) S.1 S.2.1 dX7_isGood_152 (by decide) ?_
                    obtain ⟨hi_67, h⟩ := gI_some h
                    refine lMo_readers S hK hW hi_67 dX7_isGood_153 ?_
                    refine lv_bipush (v := 8) S.1 S.2.1 dX7_isGood_154 (by decide) ?_
                    refine lv_icmp_ne (tgt := 161) S.1 S.2.1 dX7_isGood_156 (by decide) (fun c_68 => ?_) (fun c_68 => ?_)
                    · have h := ite_f c_68 h
                      refine lv_iconst (v := 0) S.1 S.2.1 dX7_isGood_161 (by decide) ?_
                      refine lv_istore_n (lv' := [(2, .int (0 : Int32)), (0, .ref (a 0)), (1, .int p0)]) S.1 S.2.1 dX7_isGood_162 rfl hl (by decide) rfl (fun ls hl => ?_)
                      exact wMo_isGood_163 S hK hA hQ N (0 : Int32) σ _ _ _ h hW (lv_sub hl [1, 0] rfl)
                    · have h := ite_t c_68 h
                      exact wMo_isGood_159 S hK hA hQ σ _ _ _ h hW (lv_sub hl [] rfl)
  · have h := ite_t c_11 h
    refine lv_aload_n S.1 S.2.1 dX7_isGood_6 rfl (lv_at hl 0 rfl) ?_
    refine lv_iconst (v := 0) S.1 S.2.1 dX7_isGood_7 (by decide) ?_
    refine lv_iconst (v := 0) S.1 S.2.1 dX7_isGood_8 (by decide) ?_
    refine lv_iconst (v := 3) S.1 S.2.1 dX7_isGood_9 (by decide) ?_
    obtain ⟨r_69, hc_70, h⟩ := cl1_some h
    have hW := kw_same hW
    refine kV_i (As := [.int (0 : Int32), .int (0 : Int32), .int (3 : Int32)]) (rest := []) S hK hA (z := none) trivial [] [] hW (cMo_isIn l D cs a σ Λ (0 : Int32) (0 : Int32) (3 : Int32) N hc_70) (ci := 6) rfl rfl lk_X7_109 q807 q24 ⟨Nat.le_of_ble_eq_true rfl, Nat.le_of_ble_eq_true rfl⟩ rfl (Nat.le_of_ble_eq_true rfl) hl.1 dX7_isGood_10 ⟨Nat.zero_le _, Nat.zero_le _⟩ (fun H locs hW => ?_)
    have hW : Wd D A s.heap (wMo cs a σ Λ) H locs := kw_back hW
    refine lv_if_eq (tgt := 27) S.1 S.2.1 dX7_isGood_13 (by decide) (fun c_71 => ?_) (fun c_71 => ?_)
    · have h := ite_t c_71 h
      exact wMo_isGood_27 S hK hA hQ σ _ _ _ h hW (lv_sub hl [] rfl)
    · have h := ite_f c_71 h
      refine lv_aload_n S.1 S.2.1 dX7_isGood_16 rfl (lv_at hl 0 rfl) ?_
      refine gMo_seats S hK hW dX7_isGood_17 ?_
      refine lv_iconst (v := 1) S.1 S.2.1 dX7_isGood_20 (by decide) ?_
      obtain ⟨hi_72, h⟩ := gI_some h
      refine lMo_seats S hK hW hi_72 dX7_isGood_21 ?_
      refine lv_bipush (v := 10) S.1 S.2.1 dX7_isGood_22 (by decide) ?_
      refine lv_icmp_ne (tgt := 29) S.1 S.2.1 dX7_isGood_24 (by decide) (fun c_73 => ?_) (fun c_73 => ?_)
      · have h := ite_f c_73 h
        refine lv_aload_n S.1 S.2.1 dX7_isGood_29 rfl (lv_at hl 0 rfl) ?_
        refine gMo_kind S hK hW dX7_isGood_30 ?_
        refine lv_bipush (v := 10) S.1 S.2.1 dX7_isGood_33 (by decide) ?_
        refine lv_aload_n S.1 S.2.1 dX7_isGood_35 rfl (lv_at hl 0 rfl) ?_
        refine gMo_seats S hK hW dX7_isGood_36 ?_
        refine lv_iconst (v := 1) S.1 S.2.1 dX7_isGood_39 (by decide) ?_
        obtain ⟨hi_74, h⟩ := gI_some h
        refine lMo_seats S hK hW hi_74 dX7_isGood_40 ?_
        refine lv_iadd S.1 S.2.1 dX7_isGood_41 ?_
        refine lv_aload_n S.1 S.2.1 dX7_isGood_42 rfl (lv_at hl 0 rfl) ?_
        refine gMo_got S hK hW dX7_isGood_43 ?_
        refine lv_iconst (v := 0) S.1 S.2.1 dX7_isGood_46 (by decide) ?_
        obtain ⟨hi_75, h⟩ := gI_some h
        refine lMo_got S hK hW hi_75 dX7_isGood_47 ?_
        obtain ⟨hi_76, h⟩ := gI_some h
        refine sMo_kind S hK hW hi_76 dX7_isGood_48 (fun H locs σ_77 eσ_77 hW => ?_)
        have h := nm_to eσ_77 h
        refine lv_aload_n S.1 S.2.1 dX7_isGood_49 rfl (lv_at hl 0 rfl) ?_
        refine gMo_seats S hK hW dX7_isGood_50 ?_
        refine lv_iconst (v := 1) S.1 S.2.1 dX7_isGood_53 (by decide) ?_
        refine lv_dup2_11 S.1 S.2.1 dX7_isGood_54 rfl rfl ?_
        obtain ⟨hi_78, h⟩ := gI_some h
        refine lMo_seats S hK hW hi_78 dX7_isGood_55 ?_
        refine lv_iconst (v := 1) S.1 S.2.1 dX7_isGood_56 (by decide) ?_
        refine lv_iadd S.1 S.2.1 dX7_isGood_57 ?_
        obtain ⟨hi_79, h⟩ := gI_some h
        refine sMo_seats S hK hW hi_79 dX7_isGood_58 (fun H locs σ_80 eσ_80 hW => ?_)
        have h := nm_to eσ_80 h
        refine lv_goto (tgt := 350) S.1 S.2.1 dX7_isGood_59 (by decide) ?_
        exact wMo_isGood_350 S hK hA hQ σ_80 _ _ _ h hW (lv_sub hl [] rfl)
      · have h := ite_t c_73 h
        exact wMo_isGood_27 S hK hA hQ σ _ _ _ h hW (lv_sub hl [] rfl)
set_option maxHeartbeats 4000000 in
set_option maxRecDepth 100000 in
theorem wMo_isItem_137 {p : Program} {l : Launch} {e : Env} {s : State} {m : MethodId} {args : Array Value} {below : List Frame} {meth : Method} {c : Code} {A : Nat → Prop} {Q : State → Prop} {D : va_G} {cs : Nat → ClassId} {a : Nat → Nat} {Λ : Nat → Int64} {r : Int32} {σ' : St} {N : Nat} (S : Fx p m c cX7_isItem 5 s args RX7) (hK : va_K D vwCl (tyL cs) s) (hA : ∀ x, s.heap.size ≤ x → A x) (hQ : ∀ (H : Heap) (locs : List Loc) (pc : Nat) (ls : Array Slot), decode cX7_isItem pc = .ok (.ireturn, 1) → narrow .boolean (.int r) = .int r → Wd D A s.heap (wMo cs a σ' Λ) H locs → W p l e { frames := 3, cells := 0, slots := 0, locals := 70 } s m args below meth c H locs 0 0 Q (F0 m pc ls [.int r])) {k_38 : Int32 → Int32 → Int32 → Int32 → St → Option (Int32 × St)} (hk_38 : ∀ (v1 : Int32) (v2 : Int32) (v3 : Int32) (v4 : Int32) (σ : St) (H : Heap) (locs : List Loc) (ls : Array Slot), k_38 v1 v2 v3 v4 σ = some (r, σ') → Wd D A s.heap (wMo cs a σ Λ) H locs → lv_has ls 5 [(0, .ref (a 0)), (1, .int v1), (2, .int v2), (3, .int v3), (4, .int v4)] → W p l e { frames := 3, cells := 0, slots := 0, locals := 70 } s m args below meth c H locs 0 0 Q (F0 m 38 ls [])) : ∀ (v1 : Int32) (v2 : Int32) (v4 : Int32) (k0 : Int32) (σ : St) (H : Heap) (locs : List Loc) (ls : Array Slot), fMo_isItem_137 k_38 N v1 v2 v4 k0 σ = some (r, σ') → Wd D A s.heap (wMo cs a σ Λ) H locs → lv_has ls 5 [(0, .ref (a 0)), (1, .int v1), (2, .int v2), (4, .int v4)] → W p l e { frames := 3, cells := 0, slots := 0, locals := 70 } s m args below meth c H locs 0 0 Q (F0 m 137 ls [.int k0]) := by
  intro v1 v2 v4 k0 σ H locs ls h hW hl
  unfold fMo_isItem_137 at h
  refine lv_istore_n (lv' := [(3, .int k0), (0, .ref (a 0)), (1, .int v1), (2, .int v2), (4, .int v4)]) S.1 S.2.1 dX7_isItem_137 rfl hl (by decide) rfl (fun ls hl => ?_)
  obtain ⟨x4_1, ex4_1, h⟩ := nm_some h
  refine lv_iinc (v := x4_1) (lv' := [(4, .int x4_1), (3, .int k0), (0, .ref (a 0)), (1, .int v1), (2, .int v2)]) S.1 S.2.1 dX7_isItem_138 hl (k := 4) rfl (by rw [ex4_1]; rfl) (by decide) rfl (fun ls hl => ?_)
  refine lv_goto (tgt := 38) S.1 S.2.1 dX7_isItem_141 (by decide) ?_
  exact hk_38 v1 v2 k0 x4_1 σ _ _ _ h hW (lv_sub hl [2, 3, 4, 1, 0] rfl)
set_option maxHeartbeats 4000000 in
set_option maxRecDepth 100000 in
theorem wMo_isItem_121 {p : Program} {l : Launch} {e : Env} {s : State} {m : MethodId} {args : Array Value} {below : List Frame} {meth : Method} {c : Code} {A : Nat → Prop} {Q : State → Prop} {D : va_G} {cs : Nat → ClassId} {a : Nat → Nat} {Λ : Nat → Int64} {r : Int32} {σ' : St} {N : Nat} (S : Fx p m c cX7_isItem 5 s args RX7) (hK : va_K D vwCl (tyL cs) s) (hA : ∀ x, s.heap.size ≤ x → A x) (hQ : ∀ (H : Heap) (locs : List Loc) (pc : Nat) (ls : Array Slot), decode cX7_isItem pc = .ok (.ireturn, 1) → narrow .boolean (.int r) = .int r → Wd D A s.heap (wMo cs a σ' Λ) H locs → W p l e { frames := 3, cells := 0, slots := 0, locals := 70 } s m args below meth c H locs 0 0 Q (F0 m pc ls [.int r])) {k_38 : Int32 → Int32 → Int32 → Int32 → St → Option (Int32 × St)} (hk_38 : ∀ (v1 : Int32) (v2 : Int32) (v3 : Int32) (v4 : Int32) (σ : St) (H : Heap) (locs : List Loc) (ls : Array Slot), k_38 v1 v2 v3 v4 σ = some (r, σ') → Wd D A s.heap (wMo cs a σ Λ) H locs → lv_has ls 5 [(0, .ref (a 0)), (1, .int v1), (2, .int v2), (3, .int v3), (4, .int v4)] → W p l e { frames := 3, cells := 0, slots := 0, locals := 70 } s m args below meth c H locs 0 0 Q (F0 m 38 ls [])) : ∀ (v1 : Int32) (v2 : Int32) (v4 : Int32) (k1 : Int32) (k2 : Int32) (σ : St) (H : Heap) (locs : List Loc) (ls : Array Slot), fMo_isItem_121 k_38 N v1 v2 v4 k1 k2 σ = some (r, σ') → Wd D A s.heap (wMo cs a σ Λ) H locs → lv_has ls 5 [(0, .ref (a 0)), (1, .int v1), (2, .int v2), (4, .int v4)] → W p l e { frames := 3, cells := 0, slots := 0, locals := 70 } s m args below meth c H locs 0 0 Q (F0 m 121 ls [.int k2, .int k1, .ref (a 30)]) := by
  intro v1 v2 v4 k1 k2 σ H locs ls h hW hl
  unfold fMo_isItem_121 at h
  obtain ⟨hi_2, h⟩ := gI_some h
  refine sMo_got S hK hW hi_2 dX7_isItem_121 (fun H locs σ_3 eσ_3 hW => ?_)
  have h := nm_to eσ_3 h
  refine lv_aload_n S.1 S.2.1 dX7_isItem_122 rfl (lv_at hl 0 rfl) ?_
  refine gMo_got S hK hW dX7_isItem_123 ?_
  refine lv_iload S.1 S.2.1 dX7_isItem_126 (lv_at hl 3 rfl) ?_
  obtain ⟨hi_4, h⟩ := gI_some h
  refine lMo_got S hK hW hi_4 dX7_isItem_128 ?_
  refine lv_if_lt (tgt := 136) S.1 S.2.1 dX7_isItem_129 (by decide) (fun c_5 => ?_) (fun c_5 => ?_)
  · have h := ite_t c_5 h
    refine lv_iconst (v := 0) S.1 S.2.1 dX7_isItem_136 (by decide) ?_
    exact wMo_isItem_137 S hK hA hQ hk_38 v1 v2 v4 (0 : Int32) σ_3 _ _ _ h hW (lv_sub hl [0, 1, 2, 3] rfl)
  · have h := ite_f c_5 h
    refine lv_iconst (v := 1) S.1 S.2.1 dX7_isItem_132 (by decide) ?_
    refine lv_goto (tgt := 137) S.1 S.2.1 dX7_isItem_133 (by decide) ?_
    exact wMo_isItem_137 S hK hA hQ hk_38 v1 v2 v4 (1 : Int32) σ_3 _ _ _ h hW (lv_sub hl [0, 1, 2, 3] rfl)
set_option maxHeartbeats 4000000 in
set_option maxRecDepth 100000 in
theorem wMo_isItem_99 {p : Program} {l : Launch} {e : Env} {s : State} {m : MethodId} {args : Array Value} {below : List Frame} {meth : Method} {c : Code} {A : Nat → Prop} {Q : State → Prop} {D : va_G} {cs : Nat → ClassId} {a : Nat → Nat} {Λ : Nat → Int64} {r : Int32} {σ' : St} {N : Nat} (S : Fx p m c cX7_isItem 5 s args RX7) (hK : va_K D vwCl (tyL cs) s) (hA : ∀ x, s.heap.size ≤ x → A x) (hQ : ∀ (H : Heap) (locs : List Loc) (pc : Nat) (ls : Array Slot), decode cX7_isItem pc = .ok (.ireturn, 1) → narrow .boolean (.int r) = .int r → Wd D A s.heap (wMo cs a σ' Λ) H locs → W p l e { frames := 3, cells := 0, slots := 0, locals := 70 } s m args below meth c H locs 0 0 Q (F0 m pc ls [.int r])) {k_38 : Int32 → Int32 → Int32 → Int32 → St → Option (Int32 × St)} (hk_38 : ∀ (v1 : Int32) (v2 : Int32) (v3 : Int32) (v4 : Int32) (σ : St) (H : Heap) (locs : List Loc) (ls : Array Slot), k_38 v1 v2 v3 v4 σ = some (r, σ') → Wd D A s.heap (wMo cs a σ Λ) H locs → lv_has ls 5 [(0, .ref (a 0)), (1, .int v1), (2, .int v2), (3, .int v3), (4, .int v4)] → W p l e { frames := 3, cells := 0, slots := 0, locals := 70 } s m args below meth c H locs 0 0 Q (F0 m 38 ls [])) : ∀ (v1 : Int32) (v2 : Int32) (v3 : Int32) (v4 : Int32) (k1 : Int32) (k2 : Int32) (σ : St) (H : Heap) (locs : List Loc) (ls : Array Slot), fMo_isItem_99 k_38 N v1 v2 v3 v4 k1 k2 σ = some (r, σ') → Wd D A s.heap (wMo cs a σ Λ) H locs → lv_has ls 5 [(0, .ref (a 0)), (1, .int v1), (2, .int v2), (3, .int v3), (4, .int v4)] → W p l e { frames := 3, cells := 0, slots := 0, locals := 70 } s m args below meth c H locs 0 0 Q (F0 m 99 ls [.int k2, .int k1, .ref (a 0)]) := by
  intro v1 v2 v3 v4 k1 k2 σ H locs ls h hW hl
  unfold fMo_isItem_99 at h
  refine lv_iadd S.1 S.2.1 dX7_isItem_99 ?_
  refine pMo_at S hK hW dX7_isItem_100 (fun H locs σ_6 eσ_6 hW => ?_)
  have h := nm_to eσ_6 h
  refine lv_aload_n S.1 S.2.1 dX7_isItem_103 rfl (lv_at hl 0 rfl) ?_
  refine gMo_got S hK hW dX7_isItem_104 ?_
  refine lv_iload S.1 S.2.1 dX7_isItem_107 (lv_at hl 4 rfl) ?_
  refine lv_iload_n S.1 S.2.1 dX7_isItem_109 rfl (lv_at hl 3 rfl) ?_
  refine lv_if_eq (tgt := 120) S.1 S.2.1 dX7_isItem_110 (by decide) (fun c_7 => ?_) (fun c_7 => ?_)
  · have h := ite_t c_7 h
    refine lv_iconst (v := -1) S.1 S.2.1 dX7_isItem_120 (by decide) ?_
    exact wMo_isItem_121 S hK hA hQ hk_38 v1 v2 v4 v4 (-1 : Int32) σ_6 _ _ _ h hW (lv_sub hl [0, 1, 2, 4] rfl)
  · have h := ite_f c_7 h
    refine lv_aload_n S.1 S.2.1 dX7_isItem_113 rfl (lv_at hl 0 rfl) ?_
    obtain ⟨r_8, σ_9, hc_10, h⟩ := cl2_some h
    have hW := kw_same hW
    refine kV_i (As := []) (rest := [.int v4, .ref (a 30)]) S hK hA (z := none) trivial [] [] hW (cMo_number l D cs a σ_6 Λ N hc_10) (ci := 6) rfl rfl lk_X7_101 q796 q22 ⟨Nat.le_of_ble_eq_true rfl, Nat.le_of_ble_eq_true rfl⟩ rfl (Nat.le_of_ble_eq_true rfl) hl.1 dX7_isItem_114 ⟨Nat.zero_le _, Nat.zero_le _⟩ (fun H locs hW => ?_)
    have hW : Wd D A s.heap (wMo cs a σ_9 Λ) H locs := kw_back hW
    refine lv_goto (tgt := 121) S.1 S.2.1 dX7_isItem_117 (by decide) ?_
    exact wMo_isItem_121 S hK hA hQ hk_38 v1 v2 v4 v4 r_8 σ_9 _ _ _ h hW (lv_sub hl [0, 1, 2, 4] rfl)
set_option maxHeartbeats 4000000 in
set_option maxRecDepth 100000 in
theorem wMo_isItem_83 {p : Program} {l : Launch} {e : Env} {s : State} {m : MethodId} {args : Array Value} {below : List Frame} {meth : Method} {c : Code} {A : Nat → Prop} {Q : State → Prop} {D : va_G} {cs : Nat → ClassId} {a : Nat → Nat} {Λ : Nat → Int64} {r : Int32} {σ' : St} {N : Nat} (S : Fx p m c cX7_isItem 5 s args RX7) (hK : va_K D vwCl (tyL cs) s) (hA : ∀ x, s.heap.size ≤ x → A x) (hQ : ∀ (H : Heap) (locs : List Loc) (pc : Nat) (ls : Array Slot), decode cX7_isItem pc = .ok (.ireturn, 1) → narrow .boolean (.int r) = .int r → Wd D A s.heap (wMo cs a σ' Λ) H locs → W p l e { frames := 3, cells := 0, slots := 0, locals := 70 } s m args below meth c H locs 0 0 Q (F0 m pc ls [.int r])) {k_38 : Int32 → Int32 → Int32 → Int32 → St → Option (Int32 × St)} (hk_38 : ∀ (v1 : Int32) (v2 : Int32) (v3 : Int32) (v4 : Int32) (σ : St) (H : Heap) (locs : List Loc) (ls : Array Slot), k_38 v1 v2 v3 v4 σ = some (r, σ') → Wd D A s.heap (wMo cs a σ Λ) H locs → lv_has ls 5 [(0, .ref (a 0)), (1, .int v1), (2, .int v2), (3, .int v3), (4, .int v4)] → W p l e { frames := 3, cells := 0, slots := 0, locals := 70 } s m args below meth c H locs 0 0 Q (F0 m 38 ls [])) : ∀ (v1 : Int32) (v2 : Int32) (v4 : Int32) (k0 : Int32) (σ : St) (H : Heap) (locs : List Loc) (ls : Array Slot), fMo_isItem_83 k_38 N v1 v2 v4 k0 σ = some (r, σ') → Wd D A s.heap (wMo cs a σ Λ) H locs → lv_has ls 5 [(0, .ref (a 0)), (1, .int v1), (2, .int v2), (4, .int v4)] → W p l e { frames := 3, cells := 0, slots := 0, locals := 70 } s m args below meth c H locs 0 0 Q (F0 m 83 ls [.int k0]) := by
  intro v1 v2 v4 k0 σ H locs ls h hW hl
  unfold fMo_isItem_83 at h
  refine lv_istore_n (lv' := [(3, .int k0), (0, .ref (a 0)), (1, .int v1), (2, .int v2), (4, .int v4)]) S.1 S.2.1 dX7_isItem_83 rfl hl (by decide) rfl (fun ls hl => ?_)
  refine lv_aload_n S.1 S.2.1 dX7_isItem_84 rfl (lv_at hl 1 rfl) ?_
  refine lv_dup S.1 S.2.1 dX7_isItem_85 rfl ?_
  refine gMo_at S hK hW dX7_isItem_86 ?_
  refine lv_iload S.1 S.2.1 dX7_isItem_89 (lv_at hl 4 rfl) ?_
  refine lv_if_ne (tgt := 98) S.1 S.2.1 dX7_isItem_91 (by decide) (fun c_11 => ?_) (fun c_11 => ?_)
  · have h := ite_f c_11 h
    refine lv_iconst (v := 1) S.1 S.2.1 dX7_isItem_98 (by decide) ?_
    exact wMo_isItem_99 S hK hA hQ hk_38 v1 v2 k0 v4 (σ 0 2) (1 : Int32) σ _ _ _ h hW (lv_sub hl [1, 2, 3, 0, 4] rfl)
  · have h := ite_t c_11 h
    refine lv_iconst (v := 0) S.1 S.2.1 dX7_isItem_94 (by decide) ?_
    refine lv_goto (tgt := 99) S.1 S.2.1 dX7_isItem_95 (by decide) ?_
    exact wMo_isItem_99 S hK hA hQ hk_38 v1 v2 k0 v4 (σ 0 2) (0 : Int32) σ _ _ _ h hW (lv_sub hl [1, 2, 3, 0, 4] rfl)
set_option maxHeartbeats 4000000 in
set_option maxRecDepth 100000 in
theorem wMo_isItem_78 {p : Program} {l : Launch} {e : Env} {s : State} {m : MethodId} {args : Array Value} {below : List Frame} {meth : Method} {c : Code} {A : Nat → Prop} {Q : State → Prop} {D : va_G} {cs : Nat → ClassId} {a : Nat → Nat} {Λ : Nat → Int64} {r : Int32} {σ' : St} {N : Nat} (S : Fx p m c cX7_isItem 5 s args RX7) (hK : va_K D vwCl (tyL cs) s) (hA : ∀ x, s.heap.size ≤ x → A x) (hQ : ∀ (H : Heap) (locs : List Loc) (pc : Nat) (ls : Array Slot), decode cX7_isItem pc = .ok (.ireturn, 1) → narrow .boolean (.int r) = .int r → Wd D A s.heap (wMo cs a σ' Λ) H locs → W p l e { frames := 3, cells := 0, slots := 0, locals := 70 } s m args below meth c H locs 0 0 Q (F0 m pc ls [.int r])) {k_38 : Int32 → Int32 → Int32 → Int32 → St → Option (Int32 × St)} (hk_38 : ∀ (v1 : Int32) (v2 : Int32) (v3 : Int32) (v4 : Int32) (σ : St) (H : Heap) (locs : List Loc) (ls : Array Slot), k_38 v1 v2 v3 v4 σ = some (r, σ') → Wd D A s.heap (wMo cs a σ Λ) H locs → lv_has ls 5 [(0, .ref (a 0)), (1, .int v1), (2, .int v2), (3, .int v3), (4, .int v4)] → W p l e { frames := 3, cells := 0, slots := 0, locals := 70 } s m args below meth c H locs 0 0 Q (F0 m 38 ls [])) : ∀ (v1 : Int32) (v2 : Int32) (v4 : Int32) (σ : St) (H : Heap) (locs : List Loc) (ls : Array Slot), fMo_isItem_78 k_38 N v1 v2 v4 σ = some (r, σ') → Wd D A s.heap (wMo cs a σ Λ) H locs → lv_has ls 5 [(0, .ref (a 0)), (1, .int v1), (2, .int v2), (4, .int v4)] → W p l e { frames := 3, cells := 0, slots := 0, locals := 70 } s m args below meth c H locs 0 0 Q (F0 m 78 ls []) := by
  intro v1 v2 v4 σ H locs ls h hW hl
  unfold fMo_isItem_78 at h
  refine lv_iconst (v := 1) S.1 S.2.1 dX7_isItem_78 (by decide) ?_
  refine lv_goto (tgt := 83) S.1 S.2.1 dX7_isItem_79 (by decide) ?_
  exact wMo_isItem_83 S hK hA hQ hk_38 v1 v2 v4 (1 : Int32) σ _ _ _ h hW (lv_sub hl [0, 1, 2, 3] rfl)
set_option maxHeartbeats 4000000 in
set_option maxRecDepth 100000 in
theorem wMo_isItem_82 {p : Program} {l : Launch} {e : Env} {s : State} {m : MethodId} {args : Array Value} {below : List Frame} {meth : Method} {c : Code} {A : Nat → Prop} {Q : State → Prop} {D : va_G} {cs : Nat → ClassId} {a : Nat → Nat} {Λ : Nat → Int64} {r : Int32} {σ' : St} {N : Nat} (S : Fx p m c cX7_isItem 5 s args RX7) (hK : va_K D vwCl (tyL cs) s) (hA : ∀ x, s.heap.size ≤ x → A x) (hQ : ∀ (H : Heap) (locs : List Loc) (pc : Nat) (ls : Array Slot), decode cX7_isItem pc = .ok (.ireturn, 1) → narrow .boolean (.int r) = .int r → Wd D A s.heap (wMo cs a σ' Λ) H locs → W p l e { frames := 3, cells := 0, slots := 0, locals := 70 } s m args below meth c H locs 0 0 Q (F0 m pc ls [.int r])) {k_38 : Int32 → Int32 → Int32 → Int32 → St → Option (Int32 × St)} (hk_38 : ∀ (v1 : Int32) (v2 : Int32) (v3 : Int32) (v4 : Int32) (σ : St) (H : Heap) (locs : List Loc) (ls : Array Slot), k_38 v1 v2 v3 v4 σ = some (r, σ') → Wd D A s.heap (wMo cs a σ Λ) H locs → lv_has ls 5 [(0, .ref (a 0)), (1, .int v1), (2, .int v2), (3, .int v3), (4, .int v4)] → W p l e { frames := 3, cells := 0, slots := 0, locals := 70 } s m args below meth c H locs 0 0 Q (F0 m 38 ls [])) : ∀ (v1 : Int32) (v2 : Int32) (v4 : Int32) (σ : St) (H : Heap) (locs : List Loc) (ls : Array Slot), fMo_isItem_82 k_38 N v1 v2 v4 σ = some (r, σ') → Wd D A s.heap (wMo cs a σ Λ) H locs → lv_has ls 5 [(0, .ref (a 0)), (1, .int v1), (2, .int v2), (4, .int v4)] → W p l e { frames := 3, cells := 0, slots := 0, locals := 70 } s m args below meth c H locs 0 0 Q (F0 m 82 ls []) := by
  intro v1 v2 v4 σ H locs ls h hW hl
  unfold fMo_isItem_82 at h
  refine lv_iconst (v := 0) S.1 S.2.1 dX7_isItem_82 (by decide) ?_
  exact wMo_isItem_83 S hK hA hQ hk_38 v1 v2 v4 (0 : Int32) σ _ _ _ h hW (lv_sub hl [0, 1, 2, 3] rfl)
set_option maxHeartbeats 4000000 in
set_option maxRecDepth 100000 in
theorem wMo_isItem_206 {p : Program} {l : Launch} {e : Env} {s : State} {m : MethodId} {args : Array Value} {below : List Frame} {meth : Method} {c : Code} {A : Nat → Prop} {Q : State → Prop} {D : va_G} {cs : Nat → ClassId} {a : Nat → Nat} {Λ : Nat → Int64} {r : Int32} {σ' : St} {N : Nat} (S : Fx p m c cX7_isItem 5 s args RX7) (hK : va_K D vwCl (tyL cs) s) (hA : ∀ x, s.heap.size ≤ x → A x) (hQ : ∀ (H : Heap) (locs : List Loc) (pc : Nat) (ls : Array Slot), decode cX7_isItem pc = .ok (.ireturn, 1) → narrow .boolean (.int r) = .int r → Wd D A s.heap (wMo cs a σ' Λ) H locs → W p l e { frames := 3, cells := 0, slots := 0, locals := 70 } s m args below meth c H locs 0 0 Q (F0 m pc ls [.int r])) : ∀ (k0 : Int32) (σ : St) (H : Heap) (locs : List Loc) (ls : Array Slot), fMo_isItem_206 N k0 σ = some (r, σ') → Wd D A s.heap (wMo cs a σ Λ) H locs → lv_has ls 5 [] → W p l e { frames := 3, cells := 0, slots := 0, locals := 70 } s m args below meth c H locs 0 0 Q (F0 m 206 ls [.int k0]) := by
  intro k0 σ H locs ls h hW hl
  unfold fMo_isItem_206 at h
  obtain ⟨hb_12, h⟩ := gB_some h
  obtain ⟨rfl, rfl⟩ := pr2 h
  exact hQ _ _ _ _ dX7_isItem_206 hb_12 hW
set_option maxHeartbeats 4000000 in
set_option maxRecDepth 100000 in
theorem wMo_isItem_205 {p : Program} {l : Launch} {e : Env} {s : State} {m : MethodId} {args : Array Value} {below : List Frame} {meth : Method} {c : Code} {A : Nat → Prop} {Q : State → Prop} {D : va_G} {cs : Nat → ClassId} {a : Nat → Nat} {Λ : Nat → Int64} {r : Int32} {σ' : St} {N : Nat} (S : Fx p m c cX7_isItem 5 s args RX7) (hK : va_K D vwCl (tyL cs) s) (hA : ∀ x, s.heap.size ≤ x → A x) (hQ : ∀ (H : Heap) (locs : List Loc) (pc : Nat) (ls : Array Slot), decode cX7_isItem pc = .ok (.ireturn, 1) → narrow .boolean (.int r) = .int r → Wd D A s.heap (wMo cs a σ' Λ) H locs → W p l e { frames := 3, cells := 0, slots := 0, locals := 70 } s m args below meth c H locs 0 0 Q (F0 m pc ls [.int r])) : ∀ (σ : St) (H : Heap) (locs : List Loc) (ls : Array Slot), fMo_isItem_205 N σ = some (r, σ') → Wd D A s.heap (wMo cs a σ Λ) H locs → lv_has ls 5 [] → W p l e { frames := 3, cells := 0, slots := 0, locals := 70 } s m args below meth c H locs 0 0 Q (F0 m 205 ls []) := by
  intro σ H locs ls h hW hl
  unfold fMo_isItem_205 at h
  refine lv_iconst (v := 0) S.1 S.2.1 dX7_isItem_205 (by decide) ?_
  exact wMo_isItem_206 S hK hA hQ (0 : Int32) σ _ _ _ h hW (lv_sub hl [] rfl)
set_option maxHeartbeats 4000000 in
set_option maxRecDepth 100000 in
theorem wMo_isItem_178 {p : Program} {l : Launch} {e : Env} {s : State} {m : MethodId} {args : Array Value} {below : List Frame} {meth : Method} {c : Code} {A : Nat → Prop} {Q : State → Prop} {D : va_G} {cs : Nat → ClassId} {a : Nat → Nat} {Λ : Nat → Int64} {r : Int32} {σ' : St} {N : Nat} (S : Fx p m c cX7_isItem 5 s args RX7) (hK : va_K D vwCl (tyL cs) s) (hA : ∀ x, s.heap.size ≤ x → A x) (hQ : ∀ (H : Heap) (locs : List Loc) (pc : Nat) (ls : Array Slot), decode cX7_isItem pc = .ok (.ireturn, 1) → narrow .boolean (.int r) = .int r → Wd D A s.heap (wMo cs a σ' Λ) H locs → W p l e { frames := 3, cells := 0, slots := 0, locals := 70 } s m args below meth c H locs 0 0 Q (F0 m pc ls [.int r])) : ∀ (v1 : Int32) (k0 : Int32) (σ : St) (H : Heap) (locs : List Loc) (ls : Array Slot), fMo_isItem_178 N v1 k0 σ = some (r, σ') → Wd D A s.heap (wMo cs a σ Λ) H locs → lv_has ls 5 [(0, .ref (a 0)), (1, .int v1)] → W p l e { frames := 3, cells := 0, slots := 0, locals := 70 } s m args below meth c H locs 0 0 Q (F0 m 178 ls [.int k0]) := by
  intro v1 k0 σ H locs ls h hW hl
  unfold fMo_isItem_178 at h
  refine lv_istore_n (lv' := [(3, .int k0), (0, .ref (a 0)), (1, .int v1)]) S.1 S.2.1 dX7_isItem_178 rfl hl (by decide) rfl (fun ls hl => ?_)
  refine lv_aload_n S.1 S.2.1 dX7_isItem_179 rfl (lv_at hl 1 rfl) ?_
  refine lv_dup S.1 S.2.1 dX7_isItem_180 rfl ?_
  refine gMo_at S hK hW dX7_isItem_181 ?_
  refine lv_iconst (v := 1) S.1 S.2.1 dX7_isItem_184 (by decide) ?_
  refine lv_iadd S.1 S.2.1 dX7_isItem_185 ?_
  refine pMo_at S hK hW dX7_isItem_186 (fun H locs σ_13 eσ_13 hW => ?_)
  have h := nm_to eσ_13 h
  refine lv_iload_n S.1 S.2.1 dX7_isItem_189 rfl (lv_at hl 0 rfl) ?_
  refine lv_if_eq (tgt := 205) S.1 S.2.1 dX7_isItem_190 (by decide) (fun c_14 => ?_) (fun c_14 => ?_)
  · have h := ite_t c_14 h
    exact wMo_isItem_205 S hK hA hQ σ_13 _ _ _ h hW (lv_sub hl [] rfl)
  · have h := ite_f c_14 h
    refine lv_aload_n S.1 S.2.1 dX7_isItem_193 rfl (lv_at hl 1 rfl) ?_
    refine lv_iload_n S.1 S.2.1 dX7_isItem_194 rfl (lv_at hl 2 rfl) ?_
    obtain ⟨r_15, σ_16, hc_17, h⟩ := cl2_some h
    have hW := kw_same hW
    refine kV_i (As := [.int v1]) (rest := []) S hK hA (z := none) trivial [] [] hW (cMo_isGood l D cs a σ_13 Λ v1 N hc_17) (ci := 6) rfl rfl lk_X7_105 q803 q23 ⟨Nat.le_of_ble_eq_true rfl, Nat.le_of_ble_eq_true rfl⟩ rfl (Nat.le_of_ble_eq_true rfl) hl.1 dX7_isItem_195 ⟨Nat.zero_le _, Nat.zero_le _⟩ (fun H locs hW => ?_)
    have hW : Wd D A s.heap (wMo cs a σ_16 Λ) H locs := kw_back hW
    refine lv_if_eq (tgt := 205) S.1 S.2.1 dX7_isItem_198 (by decide) (fun c_18 => ?_) (fun c_18 => ?_)
    · have h := ite_t c_18 h
      exact wMo_isItem_205 S hK hA hQ σ_16 _ _ _ h hW (lv_sub hl [] rfl)
    · have h := ite_f c_18 h
      refine lv_iconst (v := 1) S.1 S.2.1 dX7_isItem_201 (by decide) ?_
      refine lv_goto (tgt := 206) S.1 S.2.1 dX7_isItem_202 (by decide) ?_
      exact wMo_isItem_206 S hK hA hQ (1 : Int32) σ_16 _ _ _ h hW (lv_sub hl [] rfl)
set_option maxHeartbeats 4000000 in
set_option maxRecDepth 100000 in
theorem wMo_isItem_177 {p : Program} {l : Launch} {e : Env} {s : State} {m : MethodId} {args : Array Value} {below : List Frame} {meth : Method} {c : Code} {A : Nat → Prop} {Q : State → Prop} {D : va_G} {cs : Nat → ClassId} {a : Nat → Nat} {Λ : Nat → Int64} {r : Int32} {σ' : St} {N : Nat} (S : Fx p m c cX7_isItem 5 s args RX7) (hK : va_K D vwCl (tyL cs) s) (hA : ∀ x, s.heap.size ≤ x → A x) (hQ : ∀ (H : Heap) (locs : List Loc) (pc : Nat) (ls : Array Slot), decode cX7_isItem pc = .ok (.ireturn, 1) → narrow .boolean (.int r) = .int r → Wd D A s.heap (wMo cs a σ' Λ) H locs → W p l e { frames := 3, cells := 0, slots := 0, locals := 70 } s m args below meth c H locs 0 0 Q (F0 m pc ls [.int r])) : ∀ (v1 : Int32) (σ : St) (H : Heap) (locs : List Loc) (ls : Array Slot), fMo_isItem_177 N v1 σ = some (r, σ') → Wd D A s.heap (wMo cs a σ Λ) H locs → lv_has ls 5 [(0, .ref (a 0)), (1, .int v1)] → W p l e { frames := 3, cells := 0, slots := 0, locals := 70 } s m args below meth c H locs 0 0 Q (F0 m 177 ls []) := by
  intro v1 σ H locs ls h hW hl
  unfold fMo_isItem_177 at h
  refine lv_iconst (v := 0) S.1 S.2.1 dX7_isItem_177 (by decide) ?_
  exact wMo_isItem_178 S hK hA hQ v1 (0 : Int32) σ _ _ _ h hW (lv_sub hl [0, 1] rfl)
set_option maxHeartbeats 4000000 in
set_option maxRecDepth 100000 in
theorem wMo_isItem_144 {p : Program} {l : Launch} {e : Env} {s : State} {m : MethodId} {args : Array Value} {below : List Frame} {meth : Method} {c : Code} {A : Nat → Prop} {Q : State → Prop} {D : va_G} {cs : Nat → ClassId} {a : Nat → Nat} {Λ : Nat → Int64} {r : Int32} {σ' : St} {N : Nat} (S : Fx p m c cX7_isItem 5 s args RX7) (hK : va_K D vwCl (tyL cs) s) (hA : ∀ x, s.heap.size ≤ x → A x) (hQ : ∀ (H : Heap) (locs : List Loc) (pc : Nat) (ls : Array Slot), decode cX7_isItem pc = .ok (.ireturn, 1) → narrow .boolean (.int r) = .int r → Wd D A s.heap (wMo cs a σ' Λ) H locs → W p l e { frames := 3, cells := 0, slots := 0, locals := 70 } s m args below meth c H locs 0 0 Q (F0 m pc ls [.int r])) : ∀ (v1 : Int32) (v3 : Int32) (σ : St) (H : Heap) (locs : List Loc) (ls : Array Slot), fMo_isItem_144 N v1 v3 σ = some (r, σ') → Wd D A s.heap (wMo cs a σ Λ) H locs → lv_has ls 5 [(0, .ref (a 0)), (1, .int v1), (3, .int v3)] → W p l e { frames := 3, cells := 0, slots := 0, locals := 70 } s m args below meth c H locs 0 0 Q (F0 m 144 ls []) := by
  intro v1 v3 σ H locs ls h hW hl
  unfold fMo_isItem_144 at h
  refine lv_iload_n S.1 S.2.1 dX7_isItem_144 rfl (lv_at hl 2 rfl) ?_
  refine lv_if_eq (tgt := 177) S.1 S.2.1 dX7_isItem_145 (by decide) (fun c_19 => ?_) (fun c_19 => ?_)
  · have h := ite_t c_19 h
    exact wMo_isItem_177 S hK hA hQ v1 σ _ _ _ h hW (lv_sub hl [0, 1] rfl)
  · have h := ite_f c_19 h
    refine lv_aload_n S.1 S.2.1 dX7_isItem_148 rfl (lv_at hl 0 rfl) ?_
    refine gMo_at S hK hW dX7_isItem_149 ?_
    refine lv_aload_n S.1 S.2.1 dX7_isItem_152 rfl (lv_at hl 0 rfl) ?_
    refine gMo_length S hK hW dX7_isItem_153 ?_
    refine lv_icmp_ge (tgt := 177) S.1 S.2.1 dX7_isItem_156 (by decide) (fun c_20 => ?_) (fun c_20 => ?_)
    · have h := ite_t c_20 h
      exact wMo_isItem_177 S hK hA hQ v1 σ _ _ _ h hW (lv_sub hl [0, 1] rfl)
    · have h := ite_f c_20 h
      refine lv_aload_n S.1 S.2.1 dX7_isItem_159 rfl (lv_at hl 0 rfl) ?_
      refine gMo_text S hK hW dX7_isItem_160 ?_
      refine lv_aload_n S.1 S.2.1 dX7_isItem_163 rfl (lv_at hl 0 rfl) ?_
      refine gMo_at S hK hW dX7_isItem_164 ?_
      obtain ⟨hi_21, h⟩ := gI_some h
      refine lMo_text S hK hW hi_21 dX7_isItem_167 ?_
      refine lv_bipush (v := 59) S.1 S.2.1 dX7_isItem_168 (by decide) ?_
      refine lv_icmp_ne (tgt := 177) S.1 S.2.1 dX7_isItem_170 (by decide) (fun c_22 => ?_) (fun c_22 => ?_)
      · have h := ite_f c_22 h
        exact wMo_isItem_177 S hK hA hQ v1 σ _ _ _ h hW (lv_sub hl [0, 1] rfl)
      · have h := ite_t c_22 h
        refine lv_iconst (v := 1) S.1 S.2.1 dX7_isItem_173 (by decide) ?_
        refine lv_goto (tgt := 178) S.1 S.2.1 dX7_isItem_174 (by decide) ?_
        exact wMo_isItem_178 S hK hA hQ v1 (1 : Int32) σ _ _ _ h hW (lv_sub hl [0, 1] rfl)
set_option maxHeartbeats 4000000 in
set_option maxRecDepth 100000 in
theorem wMo_isItem_38 {p : Program} {l : Launch} {e : Env} {s : State} {m : MethodId} {args : Array Value} {below : List Frame} {meth : Method} {c : Code} {A : Nat → Prop} {Q : State → Prop} {D : va_G} {cs : Nat → ClassId} {a : Nat → Nat} {Λ : Nat → Int64} {r : Int32} {σ' : St} {N : Nat} (S : Fx p m c cX7_isItem 5 s args RX7) (hK : va_K D vwCl (tyL cs) s) (hA : ∀ x, s.heap.size ≤ x → A x) (hQ : ∀ (H : Heap) (locs : List Loc) (pc : Nat) (ls : Array Slot), decode cX7_isItem pc = .ok (.ireturn, 1) → narrow .boolean (.int r) = .int r → Wd D A s.heap (wMo cs a σ' Λ) H locs → W p l e { frames := 3, cells := 0, slots := 0, locals := 70 } s m args below meth c H locs 0 0 Q (F0 m pc ls [.int r])) : ∀ (n_38 : Nat) (v1 : Int32) (v2 : Int32) (v3 : Int32) (v4 : Int32) (σ : St) (H : Heap) (locs : List Loc) (ls : Array Slot), fMo_isItem_38 N n_38 v1 v2 v3 v4 σ = some (r, σ') → Wd D A s.heap (wMo cs a σ Λ) H locs → lv_has ls 5 [(0, .ref (a 0)), (1, .int v1), (2, .int v2), (3, .int v3), (4, .int v4)] → W p l e { frames := 3, cells := 0, slots := 0, locals := 70 } s m args below meth c H locs 0 0 Q (F0 m 38 ls []) := by
  intro n_38
  induction n_38 with
  | zero =>
    intro v1 v2 v3 v4 σ H locs ls h
    cases h
  | succ n_38 ih =>
    intro v1 v2 v3 v4 σ H locs ls h hW hl
    unfold fMo_isItem_38 at h
    refine lv_iload S.1 S.2.1 dX7_isItem_38 (lv_at hl 4 rfl) ?_
    refine lv_iload_n S.1 S.2.1 dX7_isItem_40 rfl (lv_at hl 2 rfl) ?_
    refine lv_icmp_ge (tgt := 144) S.1 S.2.1 dX7_isItem_41 (by decide) (fun c_23 => ?_) (fun c_23 => ?_)
    · have h := ite_t c_23 h
      exact wMo_isItem_144 S hK hA hQ v1 v3 σ _ _ _ h hW (lv_sub hl [0, 1, 3] rfl)
    · have h := ite_f c_23 h
      refine lv_iload_n S.1 S.2.1 dX7_isItem_44 rfl (lv_at hl 3 rfl) ?_
      refine lv_if_eq (tgt := 144) S.1 S.2.1 dX7_isItem_45 (by decide) (fun c_24 => ?_) (fun c_24 => ?_)
      · have h := ite_t c_24 h
        exact wMo_isItem_144 S hK hA hQ v1 v3 σ _ _ _ h hW (lv_sub hl [0, 1, 3] rfl)
      · have h := ite_f c_24 h
        refine lv_iload S.1 S.2.1 dX7_isItem_48 (lv_at hl 4 rfl) ?_
        refine lv_if_eq (tgt := 78) S.1 S.2.1 dX7_isItem_50 (by decide) (fun c_25 => ?_) (fun c_25 => ?_)
        · have h := ite_t c_25 h
          exact wMo_isItem_78 S hK hA hQ ih v1 v2 v4 σ _ _ _ h hW (lv_sub hl [0, 1, 2, 4] rfl)
        · have h := ite_f c_25 h
          refine lv_aload_n S.1 S.2.1 dX7_isItem_53 rfl (lv_at hl 0 rfl) ?_
          refine gMo_at S hK hW dX7_isItem_54 ?_
          refine lv_aload_n S.1 S.2.1 dX7_isItem_57 rfl (lv_at hl 0 rfl) ?_
          refine gMo_length S hK hW dX7_isItem_58 ?_
          refine lv_icmp_ge (tgt := 82) S.1 S.2.1 dX7_isItem_61 (by decide) (fun c_26 => ?_) (fun c_26 => ?_)
          · have h := ite_t c_26 h
            exact wMo_isItem_82 S hK hA hQ ih v1 v2 v4 σ _ _ _ h hW (lv_sub hl [0, 1, 2, 4] rfl)
          · have h := ite_f c_26 h
            refine lv_aload_n S.1 S.2.1 dX7_isItem_64 rfl (lv_at hl 0 rfl) ?_
            refine gMo_text S hK hW dX7_isItem_65 ?_
            refine lv_aload_n S.1 S.2.1 dX7_isItem_68 rfl (lv_at hl 0 rfl) ?_
            refine gMo_at S hK hW dX7_isItem_69 ?_
            obtain ⟨hi_27, h⟩ := gI_some h
            refine lMo_text S hK hW hi_27 dX7_isItem_72 ?_
            refine lv_bipush (v := 44) S.1 S.2.1 dX7_isItem_73 (by decide) ?_
            refine lv_icmp_ne (tgt := 82) S.1 S.2.1 dX7_isItem_75 (by decide) (fun c_28 => ?_) (fun c_28 => ?_)
            · have h := ite_f c_28 h
              exact wMo_isItem_82 S hK hA hQ ih v1 v2 v4 σ _ _ _ h hW (lv_sub hl [0, 1, 2, 4] rfl)
            · have h := ite_t c_28 h
              exact wMo_isItem_78 S hK hA hQ ih v1 v2 v4 σ _ _ _ h hW (lv_sub hl [0, 1, 2, 4] rfl)
set_option maxHeartbeats 4000000 in
set_option maxRecDepth 100000 in
theorem wMo_isItem_34 {p : Program} {l : Launch} {e : Env} {s : State} {m : MethodId} {args : Array Value} {below : List Frame} {meth : Method} {c : Code} {A : Nat → Prop} {Q : State → Prop} {D : va_G} {cs : Nat → ClassId} {a : Nat → Nat} {Λ : Nat → Int64} {r : Int32} {σ' : St} {N : Nat} (S : Fx p m c cX7_isItem 5 s args RX7) (hK : va_K D vwCl (tyL cs) s) (hA : ∀ x, s.heap.size ≤ x → A x) (hQ : ∀ (H : Heap) (locs : List Loc) (pc : Nat) (ls : Array Slot), decode cX7_isItem pc = .ok (.ireturn, 1) → narrow .boolean (.int r) = .int r → Wd D A s.heap (wMo cs a σ' Λ) H locs → W p l e { frames := 3, cells := 0, slots := 0, locals := 70 } s m args below meth c H locs 0 0 Q (F0 m pc ls [.int r])) : ∀ (v1 : Int32) (v2 : Int32) (k0 : Int32) (σ : St) (H : Heap) (locs : List Loc) (ls : Array Slot), fMo_isItem_34 N v1 v2 k0 σ = some (r, σ') → Wd D A s.heap (wMo cs a σ Λ) H locs → lv_has ls 5 [(0, .ref (a 0)), (1, .int v1), (2, .int v2)] → W p l e { frames := 3, cells := 0, slots := 0, locals := 70 } s m args below meth c H locs 0 0 Q (F0 m 34 ls [.int k0]) := by
  intro v1 v2 k0 σ H locs ls h hW hl
  unfold fMo_isItem_34 at h
  refine lv_istore_n (lv' := [(3, .int k0), (0, .ref (a 0)), (1, .int v1), (2, .int v2)]) S.1 S.2.1 dX7_isItem_34 rfl hl (by decide) rfl (fun ls hl => ?_)
  refine lv_iconst (v := 0) S.1 S.2.1 dX7_isItem_35 (by decide) ?_
  refine lv_istore (lv' := [(4, .int (0 : Int32)), (3, .int k0), (0, .ref (a 0)), (1, .int v1), (2, .int v2)]) S.1 S.2.1 dX7_isItem_36 hl (by decide) rfl (fun ls hl => ?_)
  exact wMo_isItem_38 S hK hA hQ N v1 v2 k0 (0 : Int32) σ _ _ _ h hW (lv_sub hl [2, 3, 4, 1, 0] rfl)
set_option maxHeartbeats 4000000 in
set_option maxRecDepth 100000 in
theorem cMo_isItem (l : Launch) (D : va_G) (cs : Nat → ClassId) (a : Nat → Nat) (σ : St) (Λ : Nat → Int64) (N : Nat) {r : Int32} {σ' : St} (h : fMo_isItem N σ = some (r, σ')) : Ki l D cs none yX7_isItem cX7_isItem 5 (some .boolean) 3 70 (wMo cs a σ Λ) [.ref (a 0)] r (wMo cs a σ' Λ) := by
  refine Ki_of (by decide +kernel) (Nat.le_of_ble_eq_true rfl) (fun p e s m below meth c A S hK hA hZ Q hQ ls hl hW => ?_)
  have hl : lv_has ls 5 [(0, .ref (a 0))] := hl
  unfold fMo_isItem at h
  refine lv_aload_n S.1 S.2.1 dX7_isItem_0 rfl (lv_at hl 0 rfl) ?_
  refine gMo_text S hK hW dX7_isItem_1 ?_
  refine lv_aload_n S.1 S.2.1 dX7_isItem_4 rfl (lv_at hl 0 rfl) ?_
  refine gMo_at S hK hW dX7_isItem_5 ?_
  obtain ⟨hi_29, h⟩ := gI_some h
  refine lMo_text S hK hW hi_29 dX7_isItem_8 ?_
  refine lv_topi (fun x1_30 ex1_30 => ?_)
  have h := nm_to ex1_30 h
  refine lv_istore_n (lv' := [(1, .int x1_30), (0, .ref (a 0))]) S.1 S.2.1 dX7_isItem_9 rfl hl (by decide) rfl (fun ls hl => ?_)
  refine lv_aload_n S.1 S.2.1 dX7_isItem_10 rfl (lv_at hl 1 rfl) ?_
  refine lv_dup S.1 S.2.1 dX7_isItem_11 rfl ?_
  refine gMo_at S hK hW dX7_isItem_12 ?_
  refine lv_iconst (v := 1) S.1 S.2.1 dX7_isItem_15 (by decide) ?_
  refine lv_iadd S.1 S.2.1 dX7_isItem_16 ?_
  refine pMo_at S hK hW dX7_isItem_17 (fun H locs σ_31 eσ_31 hW => ?_)
  have h := nm_to eσ_31 h
  refine lv_iload_n S.1 S.2.1 dX7_isItem_20 rfl (lv_at hl 0 rfl) ?_
  obtain ⟨r_32, hc_33, h⟩ := cl1_some h
  refine kS_i (As := [.int x1_30]) (rest := []) S hK hA (z := none) trivial [] (wMo cs a σ_31 Λ) hW (cMo_parts l D cs x1_30 N hc_33) lk_X7_97 q792 ⟨Nat.le_of_ble_eq_true rfl, Nat.le_of_ble_eq_true rfl⟩ rfl (Nat.le_of_ble_eq_true rfl) hl.1 dX7_isItem_21 ⟨Nat.zero_le _, Nat.zero_le _⟩ (fun H locs hW => ?_)
  have hW : Wd D A s.heap (wMo cs a σ_31 Λ) H locs := hW
  refine lv_istore_n (lv' := [(2, .int r_32), (1, .int x1_30), (0, .ref (a 0))]) S.1 S.2.1 dX7_isItem_24 rfl hl (by decide) rfl (fun ls hl => ?_)
  refine lv_iload_n S.1 S.2.1 dX7_isItem_25 rfl (lv_at hl 0 rfl) ?_
  refine lv_if_le (tgt := 33) S.1 S.2.1 dX7_isItem_26 (by decide) (fun c_34 => ?_) (fun c_34 => ?_)
  · have h := ite_t c_34 h
    refine lv_iconst (v := 0) S.1 S.2.1 dX7_isItem_33 (by decide) ?_
    exact wMo_isItem_34 S hK hA hQ x1_30 r_32 (0 : Int32) σ_31 _ _ _ h hW (lv_sub hl [2, 1, 0] rfl)
  · have h := ite_f c_34 h
    refine lv_iconst (v := 1) S.1 S.2.1 dX7_isItem_29 (by decide) ?_
    refine lv_goto (tgt := 34) S.1 S.2.1 dX7_isItem_30 (by decide) ?_
    exact wMo_isItem_34 S hK hA hQ x1_30 r_32 (1 : Int32) σ_31 _ _ _ h hW (lv_sub hl [2, 1, 0] rfl)
set_option maxHeartbeats 4000000 in
set_option maxRecDepth 100000 in
theorem cMo_begins (l : Launch) (D : va_G) (cs : Nat → ClassId) (a : Nat → Nat) (σ : St) (Λ : Nat → Int64) (N : Nat) {σ' : St} (h : fMo_begins N σ = some σ') : Kv l D cs none yX7_begins cX7_begins 1 none 0 0 (wMo cs a σ Λ) [.ref (a 0)] (wMo cs a σ' Λ) := by
  refine Kv_of (by decide +kernel) (Nat.le_of_ble_eq_true rfl) (fun p e s m below meth c A S hK hA hZ Q hQ ls hl hW => ?_)
  have hl : lv_has ls 1 [(0, .ref (a 0))] := hl
  unfold fMo_begins at h
  refine lv_aload_n S.1 S.2.1 dX7_begins_0 rfl (lv_at hl 0 rfl) ?_
  refine gMo_seats S hK hW dX7_begins_1 ?_
  refine lv_iconst (v := 1) S.1 S.2.1 dX7_begins_4 (by decide) ?_
  refine lv_iconst (v := 0) S.1 S.2.1 dX7_begins_5 (by decide) ?_
  obtain ⟨hi_1, h⟩ := gI_some h
  refine sMo_seats S hK hW hi_1 dX7_begins_6 (fun H locs σ_2 eσ_2 hW => ?_)
  have h := nm_to eσ_2 h
  refine lv_aload_n S.1 S.2.1 dX7_begins_7 rfl (lv_at hl 0 rfl) ?_
  refine gMo_readers S hK hW dX7_begins_8 ?_
  refine lv_iconst (v := 1) S.1 S.2.1 dX7_begins_11 (by decide) ?_
  refine lv_iconst (v := 0) S.1 S.2.1 dX7_begins_12 (by decide) ?_
  obtain ⟨hi_3, h⟩ := gI_some h
  refine sMo_readers S hK hW hi_3 dX7_begins_13 (fun H locs σ_4 eσ_4 hW => ?_)
  have h := nm_to eσ_4 h
  refine lv_aload_n S.1 S.2.1 dX7_begins_14 rfl (lv_at hl 0 rfl) ?_
  refine gMo_told S hK hW dX7_begins_15 ?_
  refine lv_iconst (v := 5) S.1 S.2.1 dX7_begins_18 (by decide) ?_
  refine lv_bipush (v := 30) S.1 S.2.1 dX7_begins_19 (by decide) ?_
  obtain ⟨hi_5, h⟩ := gI_some h
  refine sMo_told S hK hW hi_5 dX7_begins_21 (fun H locs σ_6 eσ_6 hW => ?_)
  have h := nm_to eσ_6 h
  refine lv_aload_n S.1 S.2.1 dX7_begins_22 rfl (lv_at hl 0 rfl) ?_
  refine gMo_told S hK hW dX7_begins_23 ?_
  refine lv_bipush (v := 6) S.1 S.2.1 dX7_begins_26 (by decide) ?_
  refine lv_bipush (v := 20) S.1 S.2.1 dX7_begins_28 (by decide) ?_
  obtain ⟨hi_7, h⟩ := gI_some h
  refine sMo_told S hK hW hi_7 dX7_begins_30 (fun H locs σ_8 eσ_8 hW => ?_)
  have h := nm_to eσ_8 h
  refine lv_aload_n S.1 S.2.1 dX7_begins_31 rfl (lv_at hl 0 rfl) ?_
  refine gMo_told S hK hW dX7_begins_32 ?_
  refine lv_bipush (v := 7) S.1 S.2.1 dX7_begins_35 (by decide) ?_
  refine lv_bipush (v := 15) S.1 S.2.1 dX7_begins_37 (by decide) ?_
  obtain ⟨hi_9, h⟩ := gI_some h
  refine sMo_told S hK hW hi_9 dX7_begins_39 (fun H locs σ_10 eσ_10 hW => ?_)
  have h := nm_to eσ_10 h
  refine lv_aload_n S.1 S.2.1 dX7_begins_40 rfl (lv_at hl 0 rfl) ?_
  refine gMo_told S hK hW dX7_begins_41 ?_
  refine lv_bipush (v := 8) S.1 S.2.1 dX7_begins_44 (by decide) ?_
  refine lv_bipush (v := 20) S.1 S.2.1 dX7_begins_46 (by decide) ?_
  obtain ⟨hi_11, h⟩ := gI_some h
  refine sMo_told S hK hW hi_11 dX7_begins_48 (fun H locs σ_12 eσ_12 hW => ?_)
  have h := nm_to eσ_12 h
  refine lv_aload_n S.1 S.2.1 dX7_begins_49 rfl (lv_at hl 0 rfl) ?_
  refine gMo_told S hK hW dX7_begins_50 ?_
  refine lv_bipush (v := 9) S.1 S.2.1 dX7_begins_53 (by decide) ?_
  refine lv_iconst (v := 0) S.1 S.2.1 dX7_begins_55 (by decide) ?_
  obtain ⟨hi_13, h⟩ := gI_some h
  refine sMo_told S hK hW hi_13 dX7_begins_56 (fun H locs σ_14 eσ_14 hW => ?_)
  have h := nm_to eσ_14 h
  obtain rfl := pr1 h
  exact hQ _ _ _ _ dX7_begins_57 hW
set_option maxHeartbeats 4000000 in
set_option maxRecDepth 100000 in
theorem wMo_takes_87 {p : Program} {l : Launch} {e : Env} {s : State} {m : MethodId} {args : Array Value} {below : List Frame} {meth : Method} {c : Code} {A : Nat → Prop} {Q : State → Prop} {D : va_G} {cs : Nat → ClassId} {a : Nat → Nat} {Λ : Nat → Int64} {σ' : St} {N : Nat} (S : Fx p m c cX7_takes 2 s args RX7) (hK : va_K D vwCl (tyL cs) s) (hA : ∀ x, s.heap.size ≤ x → A x) (hQ : ∀ (H : Heap) (locs : List Loc) (pc : Nat) (ls : Array Slot), decode cX7_takes pc = .ok (.return_, 1) → Wd D A s.heap (wMo cs a σ' Λ) H locs → W p l e { frames := 0, cells := 0, slots := 0, locals := 0 } s m args below meth c H locs 0 0 Q (F0 m pc ls [])) {k_26 : Int32 → St → Option (St)} (hk_26 : ∀ (v1 : Int32) (σ : St) (H : Heap) (locs : List Loc) (ls : Array Slot), k_26 v1 σ = some σ' → Wd D A s.heap (wMo cs a σ Λ) H locs → lv_has ls 2 [(0, .ref (a 0)), (1, .int v1)] → W p l e { frames := 0, cells := 0, slots := 0, locals := 0 } s m args below meth c H locs 0 0 Q (F0 m 26 ls [])) : ∀ (v1 : Int32) (σ : St) (H : Heap) (locs : List Loc) (ls : Array Slot), fMo_takes_87 k_26 N v1 σ = some σ' → Wd D A s.heap (wMo cs a σ Λ) H locs → lv_has ls 2 [(0, .ref (a 0)), (1, .int v1)] → W p l e { frames := 0, cells := 0, slots := 0, locals := 0 } s m args below meth c H locs 0 0 Q (F0 m 87 ls []) := by
  intro v1 σ H locs ls h hW hl
  unfold fMo_takes_87 at h
  obtain ⟨x1_1, ex1_1, h⟩ := nm_some h
  refine lv_iinc (v := x1_1) (lv' := [(1, .int x1_1), (0, .ref (a 0))]) S.1 S.2.1 dX7_takes_87 hl (k := 1) rfl (by rw [ex1_1]; rfl) (by decide) rfl (fun ls hl => ?_)
  refine lv_goto (tgt := 26) S.1 S.2.1 dX7_takes_90 (by decide) ?_
  exact hk_26 x1_1 σ _ _ _ h hW (lv_sub hl [1, 0] rfl)
set_option maxHeartbeats 4000000 in
set_option maxRecDepth 100000 in
theorem wMo_takes_68 {p : Program} {l : Launch} {e : Env} {s : State} {m : MethodId} {args : Array Value} {below : List Frame} {meth : Method} {c : Code} {A : Nat → Prop} {Q : State → Prop} {D : va_G} {cs : Nat → ClassId} {a : Nat → Nat} {Λ : Nat → Int64} {σ' : St} {N : Nat} (S : Fx p m c cX7_takes 2 s args RX7) (hK : va_K D vwCl (tyL cs) s) (hA : ∀ x, s.heap.size ≤ x → A x) (hQ : ∀ (H : Heap) (locs : List Loc) (pc : Nat) (ls : Array Slot), decode cX7_takes pc = .ok (.return_, 1) → Wd D A s.heap (wMo cs a σ' Λ) H locs → W p l e { frames := 0, cells := 0, slots := 0, locals := 0 } s m args below meth c H locs 0 0 Q (F0 m pc ls [])) {k_26 : Int32 → St → Option (St)} (hk_26 : ∀ (v1 : Int32) (σ : St) (H : Heap) (locs : List Loc) (ls : Array Slot), k_26 v1 σ = some σ' → Wd D A s.heap (wMo cs a σ Λ) H locs → lv_has ls 2 [(0, .ref (a 0)), (1, .int v1)] → W p l e { frames := 0, cells := 0, slots := 0, locals := 0 } s m args below meth c H locs 0 0 Q (F0 m 26 ls [])) : ∀ (v1 : Int32) (σ : St) (H : Heap) (locs : List Loc) (ls : Array Slot), fMo_takes_68 k_26 N v1 σ = some σ' → Wd D A s.heap (wMo cs a σ Λ) H locs → lv_has ls 2 [(0, .ref (a 0)), (1, .int v1)] → W p l e { frames := 0, cells := 0, slots := 0, locals := 0 } s m args below meth c H locs 0 0 Q (F0 m 68 ls []) := by
  intro v1 σ H locs ls h hW hl
  unfold fMo_takes_68 at h
  refine lv_iload_n S.1 S.2.1 dX7_takes_68 rfl (lv_at hl 1 rfl) ?_
  refine lv_iconst (v := 5) S.1 S.2.1 dX7_takes_69 (by decide) ?_
  refine lv_icmp_ge (tgt := 87) S.1 S.2.1 dX7_takes_70 (by decide) (fun c_2 => ?_) (fun c_2 => ?_)
  · have h := ite_t c_2 h
    exact wMo_takes_87 S hK hA hQ hk_26 v1 σ _ _ _ h hW (lv_sub hl [0, 1] rfl)
  · have h := ite_f c_2 h
    refine lv_aload_n S.1 S.2.1 dX7_takes_73 rfl (lv_at hl 0 rfl) ?_
    refine gMo_told S hK hW dX7_takes_74 ?_
    refine lv_iload_n S.1 S.2.1 dX7_takes_77 rfl (lv_at hl 1 rfl) ?_
    refine lv_aload_n S.1 S.2.1 dX7_takes_78 rfl (lv_at hl 0 rfl) ?_
    refine gMo_told S hK hW dX7_takes_79 ?_
    refine lv_iconst (v := 5) S.1 S.2.1 dX7_takes_82 (by decide) ?_
    refine lv_iload_n S.1 S.2.1 dX7_takes_83 rfl (lv_at hl 1 rfl) ?_
    refine lv_iadd S.1 S.2.1 dX7_takes_84 ?_
    obtain ⟨hi_3, h⟩ := gI_some h
    refine lMo_told S hK hW hi_3 dX7_takes_85 ?_
    obtain ⟨hi_4, h⟩ := gI_some h
    refine sMo_told S hK hW hi_4 dX7_takes_86 (fun H locs σ_5 eσ_5 hW => ?_)
    have h := nm_to eσ_5 h
    exact wMo_takes_87 S hK hA hQ hk_26 v1 σ_5 _ _ _ h hW (lv_sub hl [0, 1] rfl)
set_option maxHeartbeats 4000000 in
set_option maxRecDepth 100000 in
theorem wMo_takes_26 {p : Program} {l : Launch} {e : Env} {s : State} {m : MethodId} {args : Array Value} {below : List Frame} {meth : Method} {c : Code} {A : Nat → Prop} {Q : State → Prop} {D : va_G} {cs : Nat → ClassId} {a : Nat → Nat} {Λ : Nat → Int64} {σ' : St} {N : Nat} (S : Fx p m c cX7_takes 2 s args RX7) (hK : va_K D vwCl (tyL cs) s) (hA : ∀ x, s.heap.size ≤ x → A x) (hQ : ∀ (H : Heap) (locs : List Loc) (pc : Nat) (ls : Array Slot), decode cX7_takes pc = .ok (.return_, 1) → Wd D A s.heap (wMo cs a σ' Λ) H locs → W p l e { frames := 0, cells := 0, slots := 0, locals := 0 } s m args below meth c H locs 0 0 Q (F0 m pc ls [])) : ∀ (n_26 : Nat) (v1 : Int32) (σ : St) (H : Heap) (locs : List Loc) (ls : Array Slot), fMo_takes_26 N n_26 v1 σ = some σ' → Wd D A s.heap (wMo cs a σ Λ) H locs → lv_has ls 2 [(0, .ref (a 0)), (1, .int v1)] → W p l e { frames := 0, cells := 0, slots := 0, locals := 0 } s m args below meth c H locs 0 0 Q (F0 m 26 ls []) := by
  intro n_26
  induction n_26 with
  | zero =>
    intro v1 σ H locs ls h
    cases h
  | succ n_26 ih =>
    intro v1 σ H locs ls h hW hl
    unfold fMo_takes_26 at h
    refine lv_iload_n S.1 S.2.1 dX7_takes_26 rfl (lv_at hl 1 rfl) ?_
    refine lv_bipush (v := 56) S.1 S.2.1 dX7_takes_27 (by decide) ?_
    refine lv_icmp_ge (tgt := 93) S.1 S.2.1 dX7_takes_29 (by decide) (fun c_6 => ?_) (fun c_6 => ?_)
    · have h := ite_t c_6 h
      refine lv_aload_n S.1 S.2.1 dX7_takes_93 rfl (lv_at hl 0 rfl) ?_
      refine lv_iconst (v := 1) S.1 S.2.1 dX7_takes_94 (by decide) ?_
      refine lv_aload_n S.1 S.2.1 dX7_takes_95 rfl (lv_at hl 0 rfl) ?_
      refine gMo_readers S hK hW dX7_takes_96 ?_
      refine lv_iconst (v := 0) S.1 S.2.1 dX7_takes_99 (by decide) ?_
      obtain ⟨hi_7, h⟩ := gI_some h
      refine lMo_readers S hK hW hi_7 dX7_takes_100 ?_
      refine lv_ishl S.1 S.2.1 dX7_takes_101 ?_
      refine lv_iconst (v := 1) S.1 S.2.1 dX7_takes_102 (by decide) ?_
      refine lv_isub S.1 S.2.1 dX7_takes_103 ?_
      refine pMo_holders S hK hW dX7_takes_104 (fun H locs σ_8 eσ_8 hW => ?_)
      have h := nm_to eσ_8 h
      refine lv_aload_n S.1 S.2.1 dX7_takes_107 rfl (lv_at hl 0 rfl) ?_
      refine lv_iconst (v := 0) S.1 S.2.1 dX7_takes_108 (by decide) ?_
      refine pMo_kept S hK hW dX7_takes_109 (fun H locs σ_9 eσ_9 hW => ?_)
      have h := nm_to eσ_9 h
      obtain rfl := pr1 h
      exact hQ _ _ _ _ dX7_takes_112 hW
    · have h := ite_f c_6 h
      refine lv_aload_n S.1 S.2.1 dX7_takes_32 rfl (lv_at hl 0 rfl) ?_
      refine gMo_reader S hK hW dX7_takes_33 ?_
      refine lv_iload_n S.1 S.2.1 dX7_takes_36 rfl (lv_at hl 1 rfl) ?_
      refine lv_aload_n S.1 S.2.1 dX7_takes_37 rfl (lv_at hl 0 rfl) ?_
      refine gMo_reader S hK hW dX7_takes_38 ?_
      refine lv_bipush (v := 56) S.1 S.2.1 dX7_takes_41 (by decide) ?_
      refine lv_iload_n S.1 S.2.1 dX7_takes_43 rfl (lv_at hl 1 rfl) ?_
      refine lv_iadd S.1 S.2.1 dX7_takes_44 ?_
      obtain ⟨hi_10, h⟩ := gI_some h
      refine lMo_reader S hK hW hi_10 dX7_takes_45 ?_
      obtain ⟨hi_11, h⟩ := gI_some h
      refine sMo_reader S hK hW hi_11 dX7_takes_46 (fun H locs σ_12 eσ_12 hW => ?_)
      have h := nm_to eσ_12 h
      refine lv_iload_n S.1 S.2.1 dX7_takes_47 rfl (lv_at hl 1 rfl) ?_
      refine lv_bipush (v := 10) S.1 S.2.1 dX7_takes_48 (by decide) ?_
      refine lv_icmp_ge (tgt := 68) S.1 S.2.1 dX7_takes_50 (by decide) (fun c_13 => ?_) (fun c_13 => ?_)
      · have h := ite_t c_13 h
        exact wMo_takes_68 S hK hA hQ ih v1 σ_12 _ _ _ h hW (lv_sub hl [0, 1] rfl)
      · have h := ite_f c_13 h
        refine lv_aload_n S.1 S.2.1 dX7_takes_53 rfl (lv_at hl 0 rfl) ?_
        refine gMo_kind S hK hW dX7_takes_54 ?_
        refine lv_iload_n S.1 S.2.1 dX7_takes_57 rfl (lv_at hl 1 rfl) ?_
        refine lv_aload_n S.1 S.2.1 dX7_takes_58 rfl (lv_at hl 0 rfl) ?_
        refine gMo_kind S hK hW dX7_takes_59 ?_
        refine lv_bipush (v := 10) S.1 S.2.1 dX7_takes_62 (by decide) ?_
        refine lv_iload_n S.1 S.2.1 dX7_takes_64 rfl (lv_at hl 1 rfl) ?_
        refine lv_iadd S.1 S.2.1 dX7_takes_65 ?_
        obtain ⟨hi_14, h⟩ := gI_some h
        refine lMo_kind S hK hW hi_14 dX7_takes_66 ?_
        obtain ⟨hi_15, h⟩ := gI_some h
        refine sMo_kind S hK hW hi_15 dX7_takes_67 (fun H locs σ_16 eσ_16 hW => ?_)
        have h := nm_to eσ_16 h
        exact wMo_takes_68 S hK hA hQ ih v1 σ_16 _ _ _ h hW (lv_sub hl [0, 1] rfl)
set_option maxHeartbeats 4000000 in
set_option maxRecDepth 100000 in
theorem cMo_takes (l : Launch) (D : va_G) (cs : Nat → ClassId) (a : Nat → Nat) (σ : St) (Λ : Nat → Int64) (N : Nat) {σ' : St} (h : fMo_takes N σ = some σ') : Kv l D cs none yX7_takes cX7_takes 2 none 0 0 (wMo cs a σ Λ) [.ref (a 0)] (wMo cs a σ' Λ) := by
  refine Kv_of (by decide +kernel) (Nat.le_of_ble_eq_true rfl) (fun p e s m below meth c A S hK hA hZ Q hQ ls hl hW => ?_)
  have hl : lv_has ls 2 [(0, .ref (a 0))] := hl
  unfold fMo_takes at h
  refine lv_aload_n S.1 S.2.1 dX7_takes_0 rfl (lv_at hl 0 rfl) ?_
  refine gMo_seats S hK hW dX7_takes_1 ?_
  refine lv_iconst (v := 0) S.1 S.2.1 dX7_takes_4 (by decide) ?_
  refine lv_aload_n S.1 S.2.1 dX7_takes_5 rfl (lv_at hl 0 rfl) ?_
  refine gMo_seats S hK hW dX7_takes_6 ?_
  refine lv_iconst (v := 1) S.1 S.2.1 dX7_takes_9 (by decide) ?_
  obtain ⟨hi_17, h⟩ := gI_some h
  refine lMo_seats S hK hW hi_17 dX7_takes_10 ?_
  obtain ⟨hi_18, h⟩ := gI_some h
  refine sMo_seats S hK hW hi_18 dX7_takes_11 (fun H locs σ_19 eσ_19 hW => ?_)
  have h := nm_to eσ_19 h
  refine lv_aload_n S.1 S.2.1 dX7_takes_12 rfl (lv_at hl 0 rfl) ?_
  refine gMo_readers S hK hW dX7_takes_13 ?_
  refine lv_iconst (v := 0) S.1 S.2.1 dX7_takes_16 (by decide) ?_
  refine lv_aload_n S.1 S.2.1 dX7_takes_17 rfl (lv_at hl 0 rfl) ?_
  refine gMo_readers S hK hW dX7_takes_18 ?_
  refine lv_iconst (v := 1) S.1 S.2.1 dX7_takes_21 (by decide) ?_
  obtain ⟨hi_20, h⟩ := gI_some h
  refine lMo_readers S hK hW hi_20 dX7_takes_22 ?_
  obtain ⟨hi_21, h⟩ := gI_some h
  refine sMo_readers S hK hW hi_21 dX7_takes_23 (fun H locs σ_22 eσ_22 hW => ?_)
  have h := nm_to eσ_22 h
  refine lv_iconst (v := 0) S.1 S.2.1 dX7_takes_24 (by decide) ?_
  refine lv_istore_n (lv' := [(1, .int (0 : Int32)), (0, .ref (a 0))]) S.1 S.2.1 dX7_takes_25 rfl hl (by decide) rfl (fun ls hl => ?_)
  exact wMo_takes_26 S hK hA hQ N (0 : Int32) σ_22 _ _ _ h hW (lv_sub hl [1, 0] rfl)
set_option maxHeartbeats 4000000 in
set_option maxRecDepth 100000 in
theorem wMo_fault_9 {p : Program} {l : Launch} {e : Env} {s : State} {m : MethodId} {args : Array Value} {below : List Frame} {meth : Method} {c : Code} {A : Nat → Prop} {Q : State → Prop} {D : va_G} {cs : Nat → ClassId} {a : Nat → Nat} {Λ : Nat → Int64} {r : Int32} {σ' : St} {N : Nat} (S : Fx p m c cX7_fault 2 s args RX7) (hK : va_K D vwCl (tyL cs) s) (hA : ∀ x, s.heap.size ≤ x → A x) (hQ : ∀ (H : Heap) (locs : List Loc) (pc : Nat) (ls : Array Slot), decode cX7_fault pc = .ok (.ireturn, 1) → narrow .int (.int r) = .int r → Wd D A s.heap (wMo cs a σ' Λ) H locs → W p l e { frames := 4, cells := 0, slots := 0, locals := 94 } s m args below meth c H locs 0 0 Q (F0 m pc ls [.int r])) : ∀ (n_9 : Nat) (σ : St) (H : Heap) (locs : List Loc) (ls : Array Slot), fMo_fault_9 N n_9 σ = some (r, σ') → Wd D A s.heap (wMo cs a σ Λ) H locs → lv_has ls 2 [(0, .ref (a 0))] → W p l e { frames := 4, cells := 0, slots := 0, locals := 94 } s m args below meth c H locs 0 0 Q (F0 m 9 ls []) := by
  intro n_9
  induction n_9 with
  | zero =>
    intro σ H locs ls h
    cases h
  | succ n_9 ih =>
    intro σ H locs ls h hW hl
    unfold fMo_fault_9 at h
    refine lv_aload_n S.1 S.2.1 dX7_fault_9 rfl (lv_at hl 0 rfl) ?_
    refine gMo_at S hK hW dX7_fault_10 ?_
    refine lv_aload_n S.1 S.2.1 dX7_fault_13 rfl (lv_at hl 0 rfl) ?_
    refine gMo_length S hK hW dX7_fault_14 ?_
    refine lv_icmp_ge (tgt := 37) S.1 S.2.1 dX7_fault_17 (by decide) (fun c_1 => ?_) (fun c_1 => ?_)
    · have h := ite_t c_1 h
      refine lv_bipush (v := -4) S.1 S.2.1 dX7_fault_37 (by decide) ?_
      obtain ⟨rfl, rfl⟩ := pr2 h
      exact hQ _ _ _ _ dX7_fault_39 rfl hW
    · have h := ite_f c_1 h
      refine lv_aload_n S.1 S.2.1 dX7_fault_20 rfl (lv_at hl 0 rfl) ?_
      refine gMo_at S hK hW dX7_fault_21 ?_
      refine lv_topi (fun x1_2 ex1_2 => ?_)
      have h := nm_to ex1_2 h
      refine lv_istore_n (lv' := [(1, .int x1_2), (0, .ref (a 0))]) S.1 S.2.1 dX7_fault_24 rfl hl (by decide) rfl (fun ls hl => ?_)
      refine lv_aload_n S.1 S.2.1 dX7_fault_25 rfl (lv_at hl 1 rfl) ?_
      obtain ⟨r_3, σ_4, hc_5, h⟩ := cl2_some h
      have hW := kw_same hW
      refine kV_i (As := []) (rest := []) S hK hA (z := none) trivial [] [] hW (cMo_isItem l D cs a σ Λ N hc_5) (ci := 6) rfl rfl lk_X7_119 q789 q21 ⟨Nat.le_of_ble_eq_true rfl, Nat.le_of_ble_eq_true rfl⟩ rfl (Nat.le_of_ble_eq_true rfl) hl.1 dX7_fault_26 ⟨Nat.zero_le _, Nat.zero_le _⟩ (fun H locs hW => ?_)
      have hW : Wd D A s.heap (wMo cs a σ_4 Λ) H locs := kw_back hW
      refine lv_if_ne (tgt := 34) S.1 S.2.1 dX7_fault_29 (by decide) (fun c_6 => ?_) (fun c_6 => ?_)
      · have h := ite_f c_6 h
        refine lv_goto (tgt := 9) S.1 S.2.1 dX7_fault_34 (by decide) ?_
        exact ih σ_4 _ _ _ h hW (lv_sub hl [1] rfl)
      · have h := ite_t c_6 h
        refine lv_iload_n S.1 S.2.1 dX7_fault_32 rfl (lv_at hl 0 rfl) ?_
        obtain ⟨rfl, rfl⟩ := pr2 h
        exact hQ _ _ _ _ dX7_fault_33 rfl hW
set_option maxHeartbeats 4000000 in
set_option maxRecDepth 100000 in
theorem cMo_fault (l : Launch) (D : va_G) (cs : Nat → ClassId) (a : Nat → Nat) (σ : St) (Λ : Nat → Int64) (N : Nat) {r : Int32} {σ' : St} (h : fMo_fault N σ = some (r, σ')) : Ki l D cs none yX7_fault cX7_fault 2 (some .int) 4 94 (wMo cs a σ Λ) [.ref (a 0)] r (wMo cs a σ' Λ) := by
  refine Ki_of (by decide +kernel) (Nat.le_of_ble_eq_true rfl) (fun p e s m below meth c A S hK hA hZ Q hQ ls hl hW => ?_)
  have hl : lv_has ls 2 [(0, .ref (a 0))] := hl
  unfold fMo_fault at h
  refine lv_aload_n S.1 S.2.1 dX7_fault_0 rfl (lv_at hl 0 rfl) ?_
  refine lv_iconst (v := 0) S.1 S.2.1 dX7_fault_1 (by decide) ?_
  refine pMo_at S hK hW dX7_fault_2 (fun H locs σ_7 eσ_7 hW => ?_)
  have h := nm_to eσ_7 h
  refine lv_aload_n S.1 S.2.1 dX7_fault_5 rfl (lv_at hl 0 rfl) ?_
  obtain ⟨σ_8, hc_9, h⟩ := cl1_some h
  have hW := kw_same hW
  refine kV_v (As := []) (rest := []) S hK hA (z := none) trivial [] [] hW (cMo_begins l D cs a σ_7 Λ N hc_9) (ci := 6) rfl rfl lk_X7_72 q673 q19 ⟨Nat.le_of_ble_eq_true rfl, Nat.le_of_ble_eq_true rfl⟩ rfl (Nat.le_of_ble_eq_true rfl) hl.1 dX7_fault_6 ⟨Nat.zero_le _, Nat.zero_le _⟩ (fun H locs hW => ?_)
  have hW : Wd D A s.heap (wMo cs a σ_8 Λ) H locs := kw_back hW
  exact wMo_fault_9 S hK hA hQ N σ_8 _ _ _ h hW (lv_sub hl [0] rfl)
set_option maxHeartbeats 4000000 in
set_option maxRecDepth 100000 in
theorem wMo_lay_27 {p : Program} {l : Launch} {e : Env} {s : State} {m : MethodId} {args : Array Value} {below : List Frame} {meth : Method} {c : Code} {A : Nat → Prop} {Q : State → Prop} {D : va_G} {cs : Nat → ClassId} {a : Nat → Nat} {Λ : Nat → Int64} {r : Int32} {σ' : St} {N : Nat} (S : Fx p m c cX7_lay 1 s args RX7) (hK : va_K D vwCl (tyL cs) s) (hA : ∀ x, s.heap.size ≤ x → A x) (hQ : ∀ (H : Heap) (locs : List Loc) (pc : Nat) (ls : Array Slot), decode cX7_lay pc = .ok (.ireturn, 1) → narrow .int (.int r) = .int r → Wd D A s.heap (wMo cs a σ' Λ) H locs → W p l e { frames := 5, cells := 0, slots := 0, locals := 115 } s m args below meth c H locs 0 0 Q (F0 m pc ls [.int r])) : ∀ (σ : St) (H : Heap) (locs : List Loc) (ls : Array Slot), fMo_lay_27 N σ = some (r, σ') → Wd D A s.heap (wMo cs a σ Λ) H locs → lv_has ls 1 [] → W p l e { frames := 5, cells := 0, slots := 0, locals := 115 } s m args below meth c H locs 0 0 Q (F0 m 27 ls []) := by
  intro σ H locs ls h hW hl
  unfold fMo_lay_27 at h
  refine lv_bipush (v := -2) S.1 S.2.1 dX7_lay_27 (by decide) ?_
  obtain ⟨rfl, rfl⟩ := pr2 h
  exact hQ _ _ _ _ dX7_lay_29 rfl hW
set_option maxHeartbeats 4000000 in
set_option maxRecDepth 100000 in
theorem cMo_lay (l : Launch) (D : va_G) (cs : Nat → ClassId) (a : Nat → Nat) (σ : St) (Λ : Nat → Int64) (N : Nat) {r : Int32} {σ' : St} (h : fMo_lay N σ = some (r, σ')) : Ki l D cs none yX7_lay cX7_lay 1 (some .int) 5 115 (wMo cs a σ Λ) [.ref (a 0)] r (wMo cs a σ' Λ) := by
  refine Ki_of (by decide +kernel) (Nat.le_of_ble_eq_true rfl) (fun p e s m below meth c A S hK hA hZ Q hQ ls hl hW => ?_)
  have hl : lv_has ls 1 [(0, .ref (a 0))] := hl
  unfold fMo_lay at h
  refine lv_aload_n S.1 S.2.1 dX7_lay_0 rfl (lv_at hl 0 rfl) ?_
  obtain ⟨r_1, σ_2, hc_3, h⟩ := cl2_some h
  have hW := kw_same hW
  refine kV_i (As := []) (rest := []) S hK hA (z := none) trivial [] [] hW (cMo_fault l D cs a σ Λ N hc_3) (ci := 6) rfl rfl lk_X7_123 q784 q785 ⟨Nat.le_of_ble_eq_true rfl, Nat.le_of_ble_eq_true rfl⟩ rfl (Nat.le_of_ble_eq_true rfl) hl.1 dX7_lay_1 ⟨Nat.zero_le _, Nat.zero_le _⟩ (fun H locs hW => ?_)
  have hW : Wd D A s.heap (wMo cs a σ_2 Λ) H locs := kw_back hW
  refine lv_bipush (v := -4) S.1 S.2.1 dX7_lay_4 (by decide) ?_
  refine lv_icmp_ne (tgt := 27) S.1 S.2.1 dX7_lay_6 (by decide) (fun c_4 => ?_) (fun c_4 => ?_)
  · have h := ite_f c_4 h
    exact wMo_lay_27 S hK hA hQ σ_2 _ _ _ h hW (lv_sub hl [] rfl)
  · have h := ite_t c_4 h
    refine lv_aload_n S.1 S.2.1 dX7_lay_9 rfl (lv_at hl 0 rfl) ?_
    refine gMo_seats S hK hW dX7_lay_10 ?_
    refine lv_iconst (v := 1) S.1 S.2.1 dX7_lay_13 (by decide) ?_
    obtain ⟨hi_5, h⟩ := gI_some h
    refine lMo_seats S hK hW hi_5 dX7_lay_14 ?_
    refine lv_if_eq (tgt := 27) S.1 S.2.1 dX7_lay_15 (by decide) (fun c_6 => ?_) (fun c_6 => ?_)
    · have h := ite_t c_6 h
      exact wMo_lay_27 S hK hA hQ σ_2 _ _ _ h hW (lv_sub hl [] rfl)
    · have h := ite_f c_6 h
      refine lv_aload_n S.1 S.2.1 dX7_lay_18 rfl (lv_at hl 0 rfl) ?_
      refine gMo_readers S hK hW dX7_lay_19 ?_
      refine lv_iconst (v := 1) S.1 S.2.1 dX7_lay_22 (by decide) ?_
      obtain ⟨hi_7, h⟩ := gI_some h
      refine lMo_readers S hK hW hi_7 dX7_lay_23 ?_
      refine lv_if_ne (tgt := 30) S.1 S.2.1 dX7_lay_24 (by decide) (fun c_8 => ?_) (fun c_8 => ?_)
      · have h := ite_f c_8 h
        refine lv_aload_n S.1 S.2.1 dX7_lay_30 rfl (lv_at hl 0 rfl) ?_
        obtain ⟨σ_9, hc_10, h⟩ := cl1_some h
        have hW := kw_same hW
        refine kV_v (As := []) (rest := []) S hK hA (z := none) trivial [] [] hW (cMo_takes l D cs a σ_2 Λ N hc_10) (ci := 6) rfl rfl lk_X7_75 q677 q20 ⟨Nat.le_of_ble_eq_true rfl, Nat.le_of_ble_eq_true rfl⟩ rfl (Nat.le_of_ble_eq_true rfl) hl.1 dX7_lay_31 ⟨Nat.zero_le _, Nat.zero_le _⟩ (fun H locs hW => ?_)
        have hW : Wd D A s.heap (wMo cs a σ_9 Λ) H locs := kw_back hW
        refine lv_aload_n S.1 S.2.1 dX7_lay_34 rfl (lv_at hl 0 rfl) ?_
        refine gMo_readers S hK hW dX7_lay_35 ?_
        refine lv_iconst (v := 0) S.1 S.2.1 dX7_lay_38 (by decide) ?_
        obtain ⟨hi_11, h⟩ := gI_some h
        refine lMo_readers S hK hW hi_11 dX7_lay_39 ?_
        obtain ⟨rfl, rfl⟩ := pr2 h
        exact hQ _ _ _ _ dX7_lay_40 rfl hW
      · have h := ite_t c_8 h
        exact wMo_lay_27 S hK hA hQ σ_2 _ _ _ h hW (lv_sub hl [] rfl)
set_option maxHeartbeats 4000000 in
set_option maxRecDepth 100000 in
theorem cMo_isReader (l : Launch) (D : va_G) (cs : Nat → ClassId) (a : Nat → Nat) (σ : St) (Λ : Nat → Int64) (p0 : Int32) (N : Nat) {r : Int32} (h : fMo_isReader N p0 σ = some r) : Ki l D cs none yX7_isReader cX7_isReader 2 (some .boolean) 1 25 (wMo cs a σ Λ) [.ref (a 0), .int p0] r (wMo cs a σ Λ) := by
  refine Ki_of (by decide +kernel) (Nat.le_of_ble_eq_true rfl) (fun p e s m below meth c A S hK hA hZ Q hQ ls hl hW => ?_)
  have hl : lv_has ls 2 [(0, .ref (a 0)), (1, .int p0)] := hl
  unfold fMo_isReader at h
  refine lv_iload_n S.1 S.2.1 dX7_isReader_0 rfl (lv_at hl 1 rfl) ?_
  refine lv_i2l S.1 S.2.1 dX7_isReader_1 rfl ?_
  refine lv_lconst (v := 0) S.1 S.2.1 dX7_isReader_2 (by decide) ?_
  refine lv_aload_n S.1 S.2.1 dX7_isReader_3 rfl (lv_at hl 0 rfl) ?_
  refine gMo_readers S hK hW dX7_isReader_4 ?_
  refine lv_iconst (v := 0) S.1 S.2.1 dX7_isReader_7 (by decide) ?_
  obtain ⟨hi_1, h⟩ := gI_some h
  refine lMo_readers S hK hW hi_1 dX7_isReader_8 ?_
  refine lv_iconst (v := 1) S.1 S.2.1 dX7_isReader_9 (by decide) ?_
  refine lv_isub S.1 S.2.1 dX7_isReader_10 ?_
  refine lv_i2l S.1 S.2.1 dX7_isReader_11 rfl ?_
  obtain ⟨r_2, hc_3, h⟩ := cl1_some h
  refine kS_i (As := [.long (p0.toInt64), .long (0 : Int64), .long (((σ 5 (0 : Int32).toNatClampNeg) - (1 : Int32)).toInt64)]) (rest := []) S hK hA (z := none) trivial [] (wMo cs a σ Λ) hW (cMo_in l D cs (p0.toInt64) (0 : Int64) (((σ 5 (0 : Int32).toNatClampNeg) - (1 : Int32)).toInt64) N hc_3) lk_X7_80 q777 ⟨Nat.le_of_ble_eq_true rfl, Nat.le_of_ble_eq_true rfl⟩ rfl (Nat.le_of_ble_eq_true rfl) hl.1 dX7_isReader_12 ⟨Nat.zero_le _, Nat.zero_le _⟩ (fun H locs hW => ?_)
  have hW : Wd D A s.heap (wMo cs a σ Λ) H locs := hW
  obtain ⟨hb_4, h⟩ := gB_some h
  obtain rfl := pr1 h
  exact hQ _ _ _ _ dX7_isReader_15 hb_4 hW
