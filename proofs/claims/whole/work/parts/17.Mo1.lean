set_option maxHeartbeats 4000000 in
set_option maxRecDepth 100000 in
theorem cMo_isRule (l : Launch) (D : va_G) (cs : Nat → ClassId) (p0 : Int32) (N : Nat) {r : Int32} (h : fMo_isRule N p0 = some r) : Ki l D cs none yX7_isRule cX7_isRule 1 (some .boolean) 1 25 [] [.int p0] r [] := by
  refine Ki_of (by decide +kernel) (Nat.le_of_ble_eq_true rfl) (fun p e s m below meth c A S hK hA hZ Q hQ ls hl hW => ?_)
  have hl : lv_has ls 1 [(0, .int p0)] := hl
  unfold fMo_isRule at h
  refine lv_iload_n S.1 S.2.1 dX7_isRule_0 rfl (lv_at hl 0 rfl) ?_
  refine lv_i2l S.1 S.2.1 dX7_isRule_1 rfl ?_
  refine lv_lconst (v := 0) S.1 S.2.1 dX7_isRule_2 (by decide) ?_
  refine lv_ldc2 (v := 4) S.1 S.2.1 S.2.2.2.1 (S.2.2.2.2 _ q842) dX7_isRule_3 ?_
  obtain ⟨r_1, hc_2, h⟩ := cl1_some h
  refine kS_i (As := [.long (p0.toInt64), .long (0 : Int64), .long (4 : Int64)]) (rest := []) S hK hA (z := none) trivial [] [] hW (cMo_in l D cs (p0.toInt64) (0 : Int64) (4 : Int64) N hc_2) lk_X7_80 q777 ⟨Nat.le_of_ble_eq_true rfl, Nat.le_of_ble_eq_true rfl⟩ rfl (Nat.le_of_ble_eq_true rfl) hl.1 dX7_isRule_6 ⟨Nat.zero_le _, Nat.zero_le _⟩ (fun H locs hW => ?_)
  have hW : Wd D A s.heap [] H locs := hW
  obtain ⟨hb_3, h⟩ := gB_some h
  obtain rfl := pr1 h
  exact hQ _ _ _ _ dX7_isRule_9 hb_3 hW
set_option maxHeartbeats 4000000 in
set_option maxRecDepth 100000 in
theorem cMo_isMinute (l : Launch) (D : va_G) (cs : Nat → ClassId) (p0 : Int32) (N : Nat) {r : Int32} (h : fMo_isMinute N p0 = some r) : Ki l D cs none yX7_isMinute cX7_isMinute 1 (some .boolean) 1 25 [] [.int p0] r [] := by
  refine Ki_of (by decide +kernel) (Nat.le_of_ble_eq_true rfl) (fun p e s m below meth c A S hK hA hZ Q hQ ls hl hW => ?_)
  have hl : lv_has ls 1 [(0, .int p0)] := hl
  unfold fMo_isMinute at h
  refine lv_iload_n S.1 S.2.1 dX7_isMinute_0 rfl (lv_at hl 0 rfl) ?_
  refine lv_i2l S.1 S.2.1 dX7_isMinute_1 rfl ?_
  refine lv_lconst (v := 0) S.1 S.2.1 dX7_isMinute_2 (by decide) ?_
  refine lv_ldc2 (v := 399) S.1 S.2.1 S.2.2.2.1 (S.2.2.2.2 _ q846) dX7_isMinute_3 ?_
  obtain ⟨r_1, hc_2, h⟩ := cl1_some h
  refine kS_i (As := [.long (p0.toInt64), .long (0 : Int64), .long (399 : Int64)]) (rest := []) S hK hA (z := none) trivial [] [] hW (cMo_in l D cs (p0.toInt64) (0 : Int64) (399 : Int64) N hc_2) lk_X7_80 q777 ⟨Nat.le_of_ble_eq_true rfl, Nat.le_of_ble_eq_true rfl⟩ rfl (Nat.le_of_ble_eq_true rfl) hl.1 dX7_isMinute_6 ⟨Nat.zero_le _, Nat.zero_le _⟩ (fun H locs hW => ?_)
  have hW : Wd D A s.heap [] H locs := hW
  obtain ⟨hb_3, h⟩ := gB_some h
  obtain rfl := pr1 h
  exact hQ _ _ _ _ dX7_isMinute_9 hb_3 hW
set_option maxHeartbeats 4000000 in
set_option maxRecDepth 100000 in
theorem cMo_of (l : Launch) (D : va_G) (cs : Nat → ClassId) (a : Nat → Nat) (σ : St) (Λ : Nat → Int64) (p0 : Int32) (p1 : Int32) (N : Nat) {r : Int32} (h : fMo_of N p0 p1 σ = some r) : Ki l D cs none yX7_of cX7_of 3 (some .int) 0 0 (wMo cs a σ Λ) [.ref (a 0), .int p0, .int p1] r (wMo cs a σ Λ) := by
  refine Ki_of (by decide +kernel) (Nat.le_of_ble_eq_true rfl) (fun p e s m below meth c A S hK hA hZ Q hQ ls hl hW => ?_)
  have hl : lv_has ls 3 [(0, .ref (a 0)), (1, .int p0), (2, .int p1)] := hl
  unfold fMo_of at h
  refine lv_aload_n S.1 S.2.1 dX7_of_0 rfl (lv_at hl 0 rfl) ?_
  refine gMo_reader S hK hW dX7_of_1 ?_
  refine lv_bipush (v := 7) S.1 S.2.1 dX7_of_4 (by decide) ?_
  refine lv_iload_n S.1 S.2.1 dX7_of_6 rfl (lv_at hl 1 rfl) ?_
  refine lv_imul S.1 S.2.1 dX7_of_7 ?_
  refine lv_iload_n S.1 S.2.1 dX7_of_8 rfl (lv_at hl 2 rfl) ?_
  refine lv_iadd S.1 S.2.1 dX7_of_9 ?_
  obtain ⟨hi_1, h⟩ := gI_some h
  refine lMo_reader S hK hW hi_1 dX7_of_10 ?_
  obtain rfl := pr1 h
  exact hQ _ _ _ _ dX7_of_11 rfl hW
set_option maxHeartbeats 4000000 in
set_option maxRecDepth 100000 in
theorem wMo_reader_47 {p : Program} {l : Launch} {e : Env} {s : State} {m : MethodId} {args : Array Value} {below : List Frame} {meth : Method} {c : Code} {A : Nat → Prop} {Q : State → Prop} {D : va_G} {cs : Nat → ClassId} {a : Nat → Nat} {σ : St} {Λ : Nat → Int64} {r : Int32} {N : Nat} (S : Fx p m c cX7_reader 3 s args RX7) (hK : va_K D vwCl (tyL cs) s) (hA : ∀ x, s.heap.size ≤ x → A x) (hQ : ∀ (H : Heap) (locs : List Loc) (pc : Nat) (ls : Array Slot), decode cX7_reader pc = .ok (.ireturn, 1) → narrow .int (.int r) = .int r → Wd D A s.heap (wMo cs a σ Λ) H locs → W p l e { frames := 2, cells := 0, slots := 0, locals := 46 } s m args below meth c H locs 0 0 Q (F0 m pc ls [.int r])) : ∀ (k0 : Int32) (H : Heap) (locs : List Loc) (ls : Array Slot), fMo_reader_47 N σ k0 = some r → Wd D A s.heap (wMo cs a σ Λ) H locs → lv_has ls 3 [] → W p l e { frames := 2, cells := 0, slots := 0, locals := 46 } s m args below meth c H locs 0 0 Q (F0 m 47 ls [.int k0]) := by
  intro k0 H locs ls h hW hl
  unfold fMo_reader_47 at h
  obtain rfl := pr1 h
  exact hQ _ _ _ _ dX7_reader_47 rfl hW
set_option maxHeartbeats 4000000 in
set_option maxRecDepth 100000 in
theorem wMo_reader_20 {p : Program} {l : Launch} {e : Env} {s : State} {m : MethodId} {args : Array Value} {below : List Frame} {meth : Method} {c : Code} {A : Nat → Prop} {Q : State → Prop} {D : va_G} {cs : Nat → ClassId} {a : Nat → Nat} {σ : St} {Λ : Nat → Int64} {r : Int32} {N : Nat} (S : Fx p m c cX7_reader 3 s args RX7) (hK : va_K D vwCl (tyL cs) s) (hA : ∀ x, s.heap.size ≤ x → A x) (hQ : ∀ (H : Heap) (locs : List Loc) (pc : Nat) (ls : Array Slot), decode cX7_reader pc = .ok (.ireturn, 1) → narrow .int (.int r) = .int r → Wd D A s.heap (wMo cs a σ Λ) H locs → W p l e { frames := 2, cells := 0, slots := 0, locals := 46 } s m args below meth c H locs 0 0 Q (F0 m pc ls [.int r])) : ∀ (H : Heap) (locs : List Loc) (ls : Array Slot), fMo_reader_20 N σ = some r → Wd D A s.heap (wMo cs a σ Λ) H locs → lv_has ls 3 [] → W p l e { frames := 2, cells := 0, slots := 0, locals := 46 } s m args below meth c H locs 0 0 Q (F0 m 20 ls []) := by
  intro  H locs ls h hW hl
  unfold fMo_reader_20 at h
  refine lv_iconst (v := -1) S.1 S.2.1 dX7_reader_20 (by decide) ?_
  refine lv_goto (tgt := 47) S.1 S.2.1 dX7_reader_21 (by decide) ?_
  exact wMo_reader_47 S hK hA hQ (-1 : Int32) _ _ _ h hW (lv_sub hl [] rfl)
set_option maxHeartbeats 4000000 in
set_option maxRecDepth 100000 in
theorem cMo_reader (l : Launch) (D : va_G) (cs : Nat → ClassId) (a : Nat → Nat) (σ : St) (Λ : Nat → Int64) (p0 : Int32) (p1 : Int32) (N : Nat) {r : Int32} (h : fMo_reader N p0 p1 σ = some r) : Ki l D cs none yX7_reader cX7_reader 3 (some .int) 2 46 (wMo cs a σ Λ) [.ref (a 0), .int p0, .int p1] r (wMo cs a σ Λ) := by
  refine Ki_of (by decide +kernel) (Nat.le_of_ble_eq_true rfl) (fun p e s m below meth c A S hK hA hZ Q hQ ls hl hW => ?_)
  have hl : lv_has ls 3 [(0, .ref (a 0)), (1, .int p0), (2, .int p1)] := hl
  unfold fMo_reader at h
  refine lv_aload_n S.1 S.2.1 dX7_reader_0 rfl (lv_at hl 0 rfl) ?_
  refine lv_iload_n S.1 S.2.1 dX7_reader_1 rfl (lv_at hl 1 rfl) ?_
  obtain ⟨r_1, hc_2, h⟩ := cl1_some h
  have hW := kw_same hW
  refine kV_i (As := [.int p0]) (rest := []) S hK hA (z := none) trivial [] [] hW (cMo_isReader l D cs a σ Λ p0 N hc_2) (ci := 6) rfl rfl lk_X7_130 q820 q25 ⟨Nat.le_of_ble_eq_true rfl, Nat.le_of_ble_eq_true rfl⟩ rfl (Nat.le_of_ble_eq_true rfl) hl.1 dX7_reader_2 ⟨Nat.zero_le _, Nat.zero_le _⟩ (fun H locs hW => ?_)
  have hW : Wd D A s.heap (wMo cs a σ Λ) H locs := kw_back hW
  refine lv_if_eq (tgt := 20) S.1 S.2.1 dX7_reader_5 (by decide) (fun c_3 => ?_) (fun c_3 => ?_)
  · have h := ite_t c_3 h
    exact wMo_reader_20 S hK hA hQ _ _ _ h hW (lv_sub hl [] rfl)
  · have h := ite_f c_3 h
    refine lv_iload_n S.1 S.2.1 dX7_reader_8 rfl (lv_at hl 2 rfl) ?_
    refine lv_i2l S.1 S.2.1 dX7_reader_9 rfl ?_
    refine lv_lconst (v := 0) S.1 S.2.1 dX7_reader_10 (by decide) ?_
    refine lv_ldc2 (v := 7) S.1 S.2.1 S.2.2.2.1 (S.2.2.2.2 _ q822) dX7_reader_11 ?_
    obtain ⟨r_4, hc_5, h⟩ := cl1_some h
    refine kS_i (As := [.long (p1.toInt64), .long (0 : Int64), .long (7 : Int64)]) (rest := []) S hK hA (z := none) trivial [] (wMo cs a σ Λ) hW (cMo_in l D cs (p1.toInt64) (0 : Int64) (7 : Int64) N hc_5) lk_X7_80 q777 ⟨Nat.le_of_ble_eq_true rfl, Nat.le_of_ble_eq_true rfl⟩ rfl (Nat.le_of_ble_eq_true rfl) hl.1 dX7_reader_14 ⟨Nat.zero_le _, Nat.zero_le _⟩ (fun H locs hW => ?_)
    have hW : Wd D A s.heap (wMo cs a σ Λ) H locs := hW
    refine lv_if_ne (tgt := 24) S.1 S.2.1 dX7_reader_17 (by decide) (fun c_6 => ?_) (fun c_6 => ?_)
    · have h := ite_f c_6 h
      refine lv_iload_n S.1 S.2.1 dX7_reader_24 rfl (lv_at hl 2 rfl) ?_
      refine lv_bipush (v := 7) S.1 S.2.1 dX7_reader_25 (by decide) ?_
      refine lv_icmp_ge (tgt := 39) S.1 S.2.1 dX7_reader_27 (by decide) (fun c_7 => ?_) (fun c_7 => ?_)
      · have h := ite_t c_7 h
        refine lv_aload_n S.1 S.2.1 dX7_reader_39 rfl (lv_at hl 0 rfl) ?_
        refine gMo_holders S hK hW dX7_reader_40 ?_
        refine lv_iload_n S.1 S.2.1 dX7_reader_43 rfl (lv_at hl 1 rfl) ?_
        refine lv_ishr S.1 S.2.1 dX7_reader_44 ?_
        refine lv_iconst (v := 1) S.1 S.2.1 dX7_reader_45 (by decide) ?_
        refine lv_iand S.1 S.2.1 dX7_reader_46 ?_
        exact wMo_reader_47 S hK hA hQ (((σ 0 8) >>> (p0 &&& 31)) &&& (1 : Int32)) _ _ _ h hW (lv_sub hl [] rfl)
      · have h := ite_f c_7 h
        refine lv_aload_n S.1 S.2.1 dX7_reader_30 rfl (lv_at hl 0 rfl) ?_
        refine lv_iload_n S.1 S.2.1 dX7_reader_31 rfl (lv_at hl 1 rfl) ?_
        refine lv_iload_n S.1 S.2.1 dX7_reader_32 rfl (lv_at hl 2 rfl) ?_
        obtain ⟨r_8, hc_9, h⟩ := cl1_some h
        have hW := kw_same hW
        refine kV_i (As := [.int p0, .int p1]) (rest := []) S hK hA (z := none) trivial [] [] hW (cMo_of l D cs a σ Λ p0 p1 N hc_9) (ci := 6) rfl rfl lk_X7_135 q825 q26 ⟨Nat.le_of_ble_eq_true rfl, Nat.le_of_ble_eq_true rfl⟩ rfl (Nat.le_of_ble_eq_true rfl) hl.1 dX7_reader_33 ⟨Nat.zero_le _, Nat.zero_le _⟩ (fun H locs hW => ?_)
        have hW : Wd D A s.heap (wMo cs a σ Λ) H locs := kw_back hW
        refine lv_goto (tgt := 47) S.1 S.2.1 dX7_reader_36 (by decide) ?_
        exact wMo_reader_47 S hK hA hQ r_8 _ _ _ h hW (lv_sub hl [] rfl)
    · have h := ite_t c_6 h
      exact wMo_reader_20 S hK hA hQ _ _ _ h hW (lv_sub hl [] rfl)
set_option maxHeartbeats 4000000 in
set_option maxRecDepth 100000 in
theorem wMo_kind_28 {p : Program} {l : Launch} {e : Env} {s : State} {m : MethodId} {args : Array Value} {below : List Frame} {meth : Method} {c : Code} {A : Nat → Prop} {Q : State → Prop} {D : va_G} {cs : Nat → ClassId} {a : Nat → Nat} {σ : St} {Λ : Nat → Int64} {r : Int32} {N : Nat} (S : Fx p m c cX7_kind 2 s args RX7) (hK : va_K D vwCl (tyL cs) s) (hA : ∀ x, s.heap.size ≤ x → A x) (hQ : ∀ (H : Heap) (locs : List Loc) (pc : Nat) (ls : Array Slot), decode cX7_kind pc = .ok (.ireturn, 1) → narrow .int (.int r) = .int r → Wd D A s.heap (wMo cs a σ Λ) H locs → W p l e { frames := 1, cells := 0, slots := 0, locals := 25 } s m args below meth c H locs 0 0 Q (F0 m pc ls [.int r])) : ∀ (k0 : Int32) (H : Heap) (locs : List Loc) (ls : Array Slot), fMo_kind_28 N σ k0 = some r → Wd D A s.heap (wMo cs a σ Λ) H locs → lv_has ls 2 [] → W p l e { frames := 1, cells := 0, slots := 0, locals := 25 } s m args below meth c H locs 0 0 Q (F0 m 28 ls [.int k0]) := by
  intro k0 H locs ls h hW hl
  unfold fMo_kind_28 at h
  obtain rfl := pr1 h
  exact hQ _ _ _ _ dX7_kind_28 rfl hW
set_option maxHeartbeats 4000000 in
set_option maxRecDepth 100000 in
theorem cMo_kind (l : Launch) (D : va_G) (cs : Nat → ClassId) (a : Nat → Nat) (σ : St) (Λ : Nat → Int64) (p0 : Int32) (N : Nat) {r : Int32} (h : fMo_kind N p0 σ = some r) : Ki l D cs none yX7_kind cX7_kind 2 (some .int) 1 25 (wMo cs a σ Λ) [.ref (a 0), .int p0] r (wMo cs a σ Λ) := by
  refine Ki_of (by decide +kernel) (Nat.le_of_ble_eq_true rfl) (fun p e s m below meth c A S hK hA hZ Q hQ ls hl hW => ?_)
  have hl : lv_has ls 2 [(0, .ref (a 0)), (1, .int p0)] := hl
  unfold fMo_kind at h
  refine lv_iload_n S.1 S.2.1 dX7_kind_0 rfl (lv_at hl 1 rfl) ?_
  refine lv_i2l S.1 S.2.1 dX7_kind_1 rfl ?_
  refine lv_lconst (v := 0) S.1 S.2.1 dX7_kind_2 (by decide) ?_
  refine lv_aload_n S.1 S.2.1 dX7_kind_3 rfl (lv_at hl 0 rfl) ?_
  refine gMo_seats S hK hW dX7_kind_4 ?_
  refine lv_iconst (v := 0) S.1 S.2.1 dX7_kind_7 (by decide) ?_
  obtain ⟨hi_1, h⟩ := gI_some h
  refine lMo_seats S hK hW hi_1 dX7_kind_8 ?_
  refine lv_iconst (v := 1) S.1 S.2.1 dX7_kind_9 (by decide) ?_
  refine lv_isub S.1 S.2.1 dX7_kind_10 ?_
  refine lv_i2l S.1 S.2.1 dX7_kind_11 rfl ?_
  obtain ⟨r_2, hc_3, h⟩ := cl1_some h
  refine kS_i (As := [.long (p0.toInt64), .long (0 : Int64), .long (((σ 4 (0 : Int32).toNatClampNeg) - (1 : Int32)).toInt64)]) (rest := []) S hK hA (z := none) trivial [] (wMo cs a σ Λ) hW (cMo_in l D cs (p0.toInt64) (0 : Int64) (((σ 4 (0 : Int32).toNatClampNeg) - (1 : Int32)).toInt64) N hc_3) lk_X7_80 q777 ⟨Nat.le_of_ble_eq_true rfl, Nat.le_of_ble_eq_true rfl⟩ rfl (Nat.le_of_ble_eq_true rfl) hl.1 dX7_kind_12 ⟨Nat.zero_le _, Nat.zero_le _⟩ (fun H locs hW => ?_)
  have hW : Wd D A s.heap (wMo cs a σ Λ) H locs := hW
  refine lv_if_eq (tgt := 27) S.1 S.2.1 dX7_kind_15 (by decide) (fun c_4 => ?_) (fun c_4 => ?_)
  · have h := ite_t c_4 h
    refine lv_iconst (v := -1) S.1 S.2.1 dX7_kind_27 (by decide) ?_
    exact wMo_kind_28 S hK hA hQ (-1 : Int32) _ _ _ h hW (lv_sub hl [] rfl)
  · have h := ite_f c_4 h
    refine lv_aload_n S.1 S.2.1 dX7_kind_18 rfl (lv_at hl 0 rfl) ?_
    refine gMo_kind S hK hW dX7_kind_19 ?_
    refine lv_iload_n S.1 S.2.1 dX7_kind_22 rfl (lv_at hl 1 rfl) ?_
    obtain ⟨hi_5, h⟩ := gI_some h
    refine lMo_kind S hK hW hi_5 dX7_kind_23 ?_
    refine lv_goto (tgt := 28) S.1 S.2.1 dX7_kind_24 (by decide) ?_
    exact wMo_kind_28 S hK hA hQ (σ 6 p0.toNatClampNeg) _ _ _ h hW (lv_sub hl [] rfl)
set_option maxHeartbeats 4000000 in
set_option maxRecDepth 100000 in
theorem wMo_hold_45 {p : Program} {l : Launch} {e : Env} {s : State} {m : MethodId} {args : Array Value} {below : List Frame} {meth : Method} {c : Code} {A : Nat → Prop} {Q : State → Prop} {D : va_G} {cs : Nat → ClassId} {a : Nat → Nat} {Λ : Nat → Int64} {r : Int32} {σ' : St} {N : Nat} (S : Fx p m c cX7_hold 4 s args RX7) (hK : va_K D vwCl (tyL cs) s) (hA : ∀ x, s.heap.size ≤ x → A x) (hQ : ∀ (H : Heap) (locs : List Loc) (pc : Nat) (ls : Array Slot), decode cX7_hold pc = .ok (.ireturn, 1) → narrow .int (.int r) = .int r → Wd D A s.heap (wMo cs a σ' Λ) H locs → W p l e { frames := 2, cells := 0, slots := 0, locals := 46 } s m args below meth c H locs 0 0 Q (F0 m pc ls [.int r])) : ∀ (v3 : Int32) (k1 : Int32) (σ : St) (H : Heap) (locs : List Loc) (ls : Array Slot), fMo_hold_45 N v3 k1 σ = some (r, σ') → Wd D A s.heap (wMo cs a σ Λ) H locs → lv_has ls 4 [(3, .int v3)] → W p l e { frames := 2, cells := 0, slots := 0, locals := 46 } s m args below meth c H locs 0 0 Q (F0 m 45 ls [.int k1, .ref (a 0)]) := by
  intro v3 k1 σ H locs ls h hW hl
  unfold fMo_hold_45 at h
  refine pMo_holders S hK hW dX7_hold_45 (fun H locs σ_1 eσ_1 hW => ?_)
  have h := nm_to eσ_1 h
  refine lv_iload_n S.1 S.2.1 dX7_hold_48 rfl (lv_at hl 0 rfl) ?_
  obtain ⟨rfl, rfl⟩ := pr2 h
  exact hQ _ _ _ _ dX7_hold_49 rfl hW
set_option maxHeartbeats 4000000 in
set_option maxRecDepth 100000 in
theorem cMo_hold (l : Launch) (D : va_G) (cs : Nat → ClassId) (a : Nat → Nat) (σ : St) (Λ : Nat → Int64) (p0 : Int32) (p1 : Int32) (N : Nat) {r : Int32} {σ' : St} (h : fMo_hold N p0 p1 σ = some (r, σ')) : Ki l D cs none yX7_hold cX7_hold 4 (some .int) 2 46 (wMo cs a σ Λ) [.ref (a 0), .int p0, .int p1] r (wMo cs a σ' Λ) := by
  refine Ki_of (by decide +kernel) (Nat.le_of_ble_eq_true rfl) (fun p e s m below meth c A S hK hA hZ Q hQ ls hl hW => ?_)
  have hl : lv_has ls 4 [(0, .ref (a 0)), (1, .int p0), (2, .int p1)] := hl
  unfold fMo_hold at h
  refine lv_aload_n S.1 S.2.1 dX7_hold_0 rfl (lv_at hl 0 rfl) ?_
  refine lv_iload_n S.1 S.2.1 dX7_hold_1 rfl (lv_at hl 1 rfl) ?_
  obtain ⟨r_2, hc_3, h⟩ := cl1_some h
  have hW := kw_same hW
  refine kV_i (As := [.int p0]) (rest := []) S hK hA (z := none) trivial [] [] hW (cMo_isReader l D cs a σ Λ p0 N hc_3) (ci := 6) rfl rfl lk_X7_130 q820 q25 ⟨Nat.le_of_ble_eq_true rfl, Nat.le_of_ble_eq_true rfl⟩ rfl (Nat.le_of_ble_eq_true rfl) hl.1 dX7_hold_2 ⟨Nat.zero_le _, Nat.zero_le _⟩ (fun H locs hW => ?_)
  have hW : Wd D A s.heap (wMo cs a σ Λ) H locs := kw_back hW
  refine lv_if_ne (tgt := 10) S.1 S.2.1 dX7_hold_5 (by decide) (fun c_4 => ?_) (fun c_4 => ?_)
  · have h := ite_f c_4 h
    refine lv_aload_n S.1 S.2.1 dX7_hold_10 rfl (lv_at hl 0 rfl) ?_
    refine gMo_holders S hK hW dX7_hold_11 ?_
    refine lv_iload_n S.1 S.2.1 dX7_hold_14 rfl (lv_at hl 1 rfl) ?_
    refine lv_ishr S.1 S.2.1 dX7_hold_15 ?_
    refine lv_iconst (v := 1) S.1 S.2.1 dX7_hold_16 (by decide) ?_
    refine lv_iand S.1 S.2.1 dX7_hold_17 ?_
    refine lv_topi (fun x3_5 ex3_5 => ?_)
    have h := nm_to ex3_5 h
    refine lv_istore_n (lv' := [(3, .int x3_5), (0, .ref (a 0)), (1, .int p0), (2, .int p1)]) S.1 S.2.1 dX7_hold_18 rfl hl (by decide) rfl (fun ls hl => ?_)
    refine lv_aload_n S.1 S.2.1 dX7_hold_19 rfl (lv_at hl 1 rfl) ?_
    refine lv_iload_n S.1 S.2.1 dX7_hold_20 rfl (lv_at hl 3 rfl) ?_
    refine lv_if_eq (tgt := 35) S.1 S.2.1 dX7_hold_21 (by decide) (fun c_6 => ?_) (fun c_6 => ?_)
    · have h := ite_t c_6 h
      refine lv_aload_n S.1 S.2.1 dX7_hold_35 rfl (lv_at hl 1 rfl) ?_
      refine gMo_holders S hK hW dX7_hold_36 ?_
      refine lv_iconst (v := 1) S.1 S.2.1 dX7_hold_39 (by decide) ?_
      refine lv_iload_n S.1 S.2.1 dX7_hold_40 rfl (lv_at hl 2 rfl) ?_
      refine lv_ishl S.1 S.2.1 dX7_hold_41 ?_
      refine lv_iconst (v := -1) S.1 S.2.1 dX7_hold_42 (by decide) ?_
      refine lv_ixor S.1 S.2.1 dX7_hold_43 ?_
      refine lv_iand S.1 S.2.1 dX7_hold_44 ?_
      exact wMo_hold_45 S hK hA hQ x3_5 ((σ 0 8) &&& (((1 : Int32) <<< (p0 &&& 31)) ^^^ (-1 : Int32))) σ _ _ _ h hW (lv_sub hl [0] rfl)
    · have h := ite_f c_6 h
      refine lv_aload_n S.1 S.2.1 dX7_hold_24 rfl (lv_at hl 1 rfl) ?_
      refine gMo_holders S hK hW dX7_hold_25 ?_
      refine lv_iconst (v := 1) S.1 S.2.1 dX7_hold_28 (by decide) ?_
      refine lv_iload_n S.1 S.2.1 dX7_hold_29 rfl (lv_at hl 2 rfl) ?_
      refine lv_ishl S.1 S.2.1 dX7_hold_30 ?_
      refine lv_ior S.1 S.2.1 dX7_hold_31 ?_
      refine lv_goto (tgt := 45) S.1 S.2.1 dX7_hold_32 (by decide) ?_
      exact wMo_hold_45 S hK hA hQ x3_5 ((σ 0 8) ||| ((1 : Int32) <<< (p0 &&& 31))) σ _ _ _ h hW (lv_sub hl [0] rfl)
  · have h := ite_t c_4 h
    refine lv_iconst (v := -1) S.1 S.2.1 dX7_hold_8 (by decide) ?_
    obtain ⟨rfl, rfl⟩ := pr2 h
    exact hQ _ _ _ _ dX7_hold_9 rfl hW
set_option maxHeartbeats 4000000 in
set_option maxRecDepth 100000 in
theorem wMo_comesBack_74 {p : Program} {l : Launch} {e : Env} {s : State} {m : MethodId} {args : Array Value} {below : List Frame} {meth : Method} {c : Code} {A : Nat → Prop} {Q : State → Prop} {D : va_G} {cs : Nat → ClassId} {a : Nat → Nat} {Λ : Nat → Int64} {σ' : St} {N : Nat} (S : Fx p m c cX7_comesBack 4 s args RX7) (hK : va_K D vwCl (tyL cs) s) (hA : ∀ x, s.heap.size ≤ x → A x) (hQ : ∀ (H : Heap) (locs : List Loc) (pc : Nat) (ls : Array Slot), decode cX7_comesBack pc = .ok (.return_, 1) → Wd D A s.heap (wMo cs a σ' Λ) H locs → W p l e { frames := 0, cells := 0, slots := 0, locals := 0 } s m args below meth c H locs 0 0 Q (F0 m pc ls [])) : ∀ (k1 : Int32) (k2 : Int32) (σ : St) (H : Heap) (locs : List Loc) (ls : Array Slot), fMo_comesBack_74 N k1 k2 σ = some σ' → Wd D A s.heap (wMo cs a σ Λ) H locs → lv_has ls 4 [] → W p l e { frames := 0, cells := 0, slots := 0, locals := 0 } s m args below meth c H locs 0 0 Q (F0 m 74 ls [.int k2, .int k1, .ref (a 0)]) := by
  intro k1 k2 σ H locs ls h hW hl
  unfold fMo_comesBack_74 at h
  refine lv_ior S.1 S.2.1 dX7_comesBack_74 ?_
  refine pMo_thrown S hK hW dX7_comesBack_75 (fun H locs σ_1 eσ_1 hW => ?_)
  have h := nm_to eσ_1 h
  obtain rfl := pr1 h
  exact hQ _ _ _ _ dX7_comesBack_78 hW
set_option maxHeartbeats 4000000 in
set_option maxRecDepth 100000 in
theorem cMo_comesBack (l : Launch) (D : va_G) (cs : Nat → ClassId) (a : Nat → Nat) (σ : St) (Λ : Nat → Int64) (p0 : Int32) (p1 : Int32) (N : Nat) {σ' : St} (h : fMo_comesBack N p0 p1 σ = some σ') : Kv l D cs none yX7_comesBack cX7_comesBack 4 none 0 0 (wMo cs a σ Λ) [.ref (a 0), .int p0, .int p1] (wMo cs a σ' Λ) := by
  refine Kv_of (by decide +kernel) (Nat.le_of_ble_eq_true rfl) (fun p e s m below meth c A S hK hA hZ Q hQ ls hl hW => ?_)
  have hl : lv_has ls 4 [(0, .ref (a 0)), (1, .int p0), (2, .int p1)] := hl
  unfold fMo_comesBack at h
  refine lv_aload_n S.1 S.2.1 dX7_comesBack_0 rfl (lv_at hl 0 rfl) ?_
  refine gMo_place S hK hW dX7_comesBack_1 ?_
  refine lv_iload_n S.1 S.2.1 dX7_comesBack_4 rfl (lv_at hl 1 rfl) ?_
  obtain ⟨hi_2, h⟩ := gI_some h
  refine lMo_place S hK hW hi_2 dX7_comesBack_5 ?_
  refine lv_topi (fun x3_3 ex3_3 => ?_)
  have h := nm_to ex3_3 h
  refine lv_istore_n (lv' := [(3, .int x3_3), (0, .ref (a 0)), (1, .int p0), (2, .int p1)]) S.1 S.2.1 dX7_comesBack_6 rfl hl (by decide) rfl (fun ls hl => ?_)
  refine lv_aload_n S.1 S.2.1 dX7_comesBack_7 rfl (lv_at hl 1 rfl) ?_
  refine gMo_holds S hK hW dX7_comesBack_8 ?_
  refine lv_iload_n S.1 S.2.1 dX7_comesBack_11 rfl (lv_at hl 0 rfl) ?_
  obtain ⟨hi_4, h⟩ := gI_some h
  refine lMo_holds S hK hW hi_4 dX7_comesBack_12 ?_
  refine lv_iload_n S.1 S.2.1 dX7_comesBack_13 rfl (lv_at hl 2 rfl) ?_
  refine lv_icmp_ne (tgt := 39) S.1 S.2.1 dX7_comesBack_14 (by decide) (fun c_5 => ?_) (fun c_5 => ?_)
  · have h := ite_f c_5 h
    refine lv_aload_n S.1 S.2.1 dX7_comesBack_39 rfl (lv_at hl 1 rfl) ?_
    refine gMo_does S hK hW dX7_comesBack_40 ?_
    refine lv_iload_n S.1 S.2.1 dX7_comesBack_43 rfl (lv_at hl 2 rfl) ?_
    refine lv_iconst (v := 1) S.1 S.2.1 dX7_comesBack_44 (by decide) ?_
    obtain ⟨hi_6, h⟩ := gI_some h
    refine sMo_does S hK hW hi_6 dX7_comesBack_45 (fun H locs σ_7 eσ_7 hW => ?_)
    have h := nm_to eσ_7 h
    refine lv_aload_n S.1 S.2.1 dX7_comesBack_46 rfl (lv_at hl 1 rfl) ?_
    refine gMo_since S hK hW dX7_comesBack_47 ?_
    refine lv_iload_n S.1 S.2.1 dX7_comesBack_50 rfl (lv_at hl 2 rfl) ?_
    refine lv_iload_n S.1 S.2.1 dX7_comesBack_51 rfl (lv_at hl 3 rfl) ?_
    obtain ⟨hi_8, h⟩ := gI_some h
    refine sMo_since S hK hW hi_8 dX7_comesBack_52 (fun H locs σ_9 eσ_9 hW => ?_)
    have h := nm_to eσ_9 h
    refine lv_aload_n S.1 S.2.1 dX7_comesBack_53 rfl (lv_at hl 1 rfl) ?_
    refine lv_dup S.1 S.2.1 dX7_comesBack_54 rfl ?_
    refine gMo_thrown S hK hW dX7_comesBack_55 ?_
    refine lv_aload_n S.1 S.2.1 dX7_comesBack_58 rfl (lv_at hl 1 rfl) ?_
    refine gMo_held S hK hW dX7_comesBack_59 ?_
    refine lv_iload_n S.1 S.2.1 dX7_comesBack_62 rfl (lv_at hl 2 rfl) ?_
    obtain ⟨hi_10, h⟩ := gI_some h
    refine lMo_held S hK hW hi_10 dX7_comesBack_63 ?_
    refine lv_if_eq (tgt := 73) S.1 S.2.1 dX7_comesBack_64 (by decide) (fun c_11 => ?_) (fun c_11 => ?_)
    · have h := ite_t c_11 h
      refine lv_iconst (v := 0) S.1 S.2.1 dX7_comesBack_73 (by decide) ?_
      exact wMo_comesBack_74 S hK hA hQ (σ_9 0 23) (0 : Int32) σ_9 _ _ _ h hW (lv_sub hl [] rfl)
    · have h := ite_f c_11 h
      refine lv_iconst (v := 1) S.1 S.2.1 dX7_comesBack_67 (by decide) ?_
      refine lv_iload_n S.1 S.2.1 dX7_comesBack_68 rfl (lv_at hl 2 rfl) ?_
      refine lv_ishl S.1 S.2.1 dX7_comesBack_69 ?_
      refine lv_goto (tgt := 74) S.1 S.2.1 dX7_comesBack_70 (by decide) ?_
      exact wMo_comesBack_74 S hK hA hQ (σ_9 0 23) ((1 : Int32) <<< (p0 &&& 31)) σ_9 _ _ _ h hW (lv_sub hl [] rfl)
  · have h := ite_t c_5 h
    refine lv_aload_n S.1 S.2.1 dX7_comesBack_17 rfl (lv_at hl 1 rfl) ?_
    refine gMo_holds S hK hW dX7_comesBack_18 ?_
    refine lv_iload_n S.1 S.2.1 dX7_comesBack_21 rfl (lv_at hl 0 rfl) ?_
    refine lv_iconst (v := -1) S.1 S.2.1 dX7_comesBack_22 (by decide) ?_
    obtain ⟨hi_12, h⟩ := gI_some h
    refine sMo_holds S hK hW hi_12 dX7_comesBack_23 (fun H locs σ_13 eσ_13 hW => ?_)
    have h := nm_to eσ_13 h
    refine lv_aload_n S.1 S.2.1 dX7_comesBack_24 rfl (lv_at hl 1 rfl) ?_
    refine gMo_sits S hK hW dX7_comesBack_25 ?_
    refine lv_iload_n S.1 S.2.1 dX7_comesBack_28 rfl (lv_at hl 0 rfl) ?_
    refine lv_iload_n S.1 S.2.1 dX7_comesBack_29 rfl (lv_at hl 2 rfl) ?_
    obtain ⟨hi_14, h⟩ := gI_some h
    refine sMo_sits S hK hW hi_14 dX7_comesBack_30 (fun H locs σ_15 eσ_15 hW => ?_)
    have h := nm_to eσ_15 h
    refine lv_aload_n S.1 S.2.1 dX7_comesBack_31 rfl (lv_at hl 1 rfl) ?_
    refine gMo_does S hK hW dX7_comesBack_32 ?_
    refine lv_iload_n S.1 S.2.1 dX7_comesBack_35 rfl (lv_at hl 2 rfl) ?_
    refine lv_iconst (v := 2) S.1 S.2.1 dX7_comesBack_36 (by decide) ?_
    obtain ⟨hi_16, h⟩ := gI_some h
    refine sMo_does S hK hW hi_16 dX7_comesBack_37 (fun H locs σ_17 eσ_17 hW => ?_)
    have h := nm_to eσ_17 h
    obtain rfl := pr1 h
    exact hQ _ _ _ _ dX7_comesBack_38 hW
set_option maxHeartbeats 4000000 in
set_option maxRecDepth 100000 in
theorem wMo_frees_89 {p : Program} {l : Launch} {e : Env} {s : State} {m : MethodId} {args : Array Value} {below : List Frame} {meth : Method} {c : Code} {A : Nat → Prop} {Q : State → Prop} {D : va_G} {cs : Nat → ClassId} {a : Nat → Nat} {Λ : Nat → Int64} {σ' : St} {N : Nat} (S : Fx p m c cX7_frees 8 s args RX7) (hK : va_K D vwCl (tyL cs) s) (hA : ∀ x, s.heap.size ≤ x → A x) (hQ : ∀ (H : Heap) (locs : List Loc) (pc : Nat) (ls : Array Slot), decode cX7_frees pc = .ok (.return_, 1) → Wd D A s.heap (wMo cs a σ' Λ) H locs → W p l e { frames := 0, cells := 0, slots := 0, locals := 0 } s m args below meth c H locs 0 0 Q (F0 m pc ls [])) {k_3 : Int32 → Int32 → Int32 → Int32 → Int32 → St → Option (St)} (hk_3 : ∀ (v1 : Int32) (v2 : Int32) (v3 : Int32) (v4 : Int32) (v5 : Int32) (σ : St) (H : Heap) (locs : List Loc) (ls : Array Slot), k_3 v1 v2 v3 v4 v5 σ = some σ' → Wd D A s.heap (wMo cs a σ Λ) H locs → lv_has ls 8 [(0, .ref (a 0)), (1, .int v1), (2, .int v2), (3, .int v3), (4, .int v4), (5, .int v5)] → W p l e { frames := 0, cells := 0, slots := 0, locals := 0 } s m args below meth c H locs 0 0 Q (F0 m 3 ls [])) : ∀ (v1 : Int32) (v2 : Int32) (v3 : Int32) (v4 : Int32) (v5 : Int32) (k1 : Int32) (k2 : Int32) (σ : St) (H : Heap) (locs : List Loc) (ls : Array Slot), fMo_frees_89 k_3 N v1 v2 v3 v4 v5 k1 k2 σ = some σ' → Wd D A s.heap (wMo cs a σ Λ) H locs → lv_has ls 8 [(0, .ref (a 0)), (1, .int v1), (2, .int v2), (3, .int v3), (4, .int v4), (5, .int v5)] → W p l e { frames := 0, cells := 0, slots := 0, locals := 0 } s m args below meth c H locs 0 0 Q (F0 m 89 ls [.int k2, .int k1, .ref (a 20)]) := by
  intro v1 v2 v3 v4 v5 k1 k2 σ H locs ls h hW hl
  unfold fMo_frees_89 at h
  obtain ⟨hi_1, h⟩ := gI_some h
  refine sMo_holds S hK hW hi_1 dX7_frees_89 (fun H locs σ_2 eσ_2 hW => ?_)
  have h := nm_to eσ_2 h
  obtain ⟨x5_3, ex5_3, h⟩ := nm_some h
  refine lv_iinc (v := x5_3) (lv' := [(5, .int x5_3), (0, .ref (a 0)), (1, .int v1), (2, .int v2), (3, .int v3), (4, .int v4)]) S.1 S.2.1 dX7_frees_90 hl (k := 5) rfl (by rw [ex5_3]; rfl) (by decide) rfl (fun ls hl => ?_)
  refine lv_goto (tgt := 3) S.1 S.2.1 dX7_frees_93 (by decide) ?_
  exact hk_3 v1 v2 v3 v4 x5_3 σ_2 _ _ _ h hW (lv_sub hl [1, 2, 3, 4, 5, 0] rfl)
set_option maxHeartbeats 4000000 in
set_option maxRecDepth 100000 in
theorem wMo_frees_87 {p : Program} {l : Launch} {e : Env} {s : State} {m : MethodId} {args : Array Value} {below : List Frame} {meth : Method} {c : Code} {A : Nat → Prop} {Q : State → Prop} {D : va_G} {cs : Nat → ClassId} {a : Nat → Nat} {Λ : Nat → Int64} {σ' : St} {N : Nat} (S : Fx p m c cX7_frees 8 s args RX7) (hK : va_K D vwCl (tyL cs) s) (hA : ∀ x, s.heap.size ≤ x → A x) (hQ : ∀ (H : Heap) (locs : List Loc) (pc : Nat) (ls : Array Slot), decode cX7_frees pc = .ok (.return_, 1) → Wd D A s.heap (wMo cs a σ' Λ) H locs → W p l e { frames := 0, cells := 0, slots := 0, locals := 0 } s m args below meth c H locs 0 0 Q (F0 m pc ls [])) {k_3 : Int32 → Int32 → Int32 → Int32 → Int32 → St → Option (St)} (hk_3 : ∀ (v1 : Int32) (v2 : Int32) (v3 : Int32) (v4 : Int32) (v5 : Int32) (σ : St) (H : Heap) (locs : List Loc) (ls : Array Slot), k_3 v1 v2 v3 v4 v5 σ = some σ' → Wd D A s.heap (wMo cs a σ Λ) H locs → lv_has ls 8 [(0, .ref (a 0)), (1, .int v1), (2, .int v2), (3, .int v3), (4, .int v4), (5, .int v5)] → W p l e { frames := 0, cells := 0, slots := 0, locals := 0 } s m args below meth c H locs 0 0 Q (F0 m 3 ls [])) : ∀ (v1 : Int32) (v2 : Int32) (v3 : Int32) (v4 : Int32) (v5 : Int32) (v6 : Int32) (k1 : Int32) (σ : St) (H : Heap) (locs : List Loc) (ls : Array Slot), fMo_frees_87 k_3 N v1 v2 v3 v4 v5 v6 k1 σ = some σ' → Wd D A s.heap (wMo cs a σ Λ) H locs → lv_has ls 8 [(0, .ref (a 0)), (1, .int v1), (2, .int v2), (3, .int v3), (4, .int v4), (5, .int v5), (6, .int v6)] → W p l e { frames := 0, cells := 0, slots := 0, locals := 0 } s m args below meth c H locs 0 0 Q (F0 m 87 ls [.int k1, .ref (a 20)]) := by
  intro v1 v2 v3 v4 v5 v6 k1 σ H locs ls h hW hl
  unfold fMo_frees_87 at h
  refine lv_iload S.1 S.2.1 dX7_frees_87 (lv_at hl 6 rfl) ?_
  exact wMo_frees_89 S hK hA hQ hk_3 v1 v2 v3 v4 v5 k1 v6 σ _ _ _ h hW (lv_sub hl [0, 1, 2, 3, 4, 5] rfl)
set_option maxHeartbeats 4000000 in
set_option maxRecDepth 100000 in
theorem wMo_frees_56 {p : Program} {l : Launch} {e : Env} {s : State} {m : MethodId} {args : Array Value} {below : List Frame} {meth : Method} {c : Code} {A : Nat → Prop} {Q : State → Prop} {D : va_G} {cs : Nat → ClassId} {a : Nat → Nat} {Λ : Nat → Int64} {σ' : St} {N : Nat} (S : Fx p m c cX7_frees 8 s args RX7) (hK : va_K D vwCl (tyL cs) s) (hA : ∀ x, s.heap.size ≤ x → A x) (hQ : ∀ (H : Heap) (locs : List Loc) (pc : Nat) (ls : Array Slot), decode cX7_frees pc = .ok (.return_, 1) → Wd D A s.heap (wMo cs a σ' Λ) H locs → W p l e { frames := 0, cells := 0, slots := 0, locals := 0 } s m args below meth c H locs 0 0 Q (F0 m pc ls [])) {k_3 : Int32 → Int32 → Int32 → Int32 → Int32 → St → Option (St)} (hk_3 : ∀ (v1 : Int32) (v2 : Int32) (v3 : Int32) (v4 : Int32) (v5 : Int32) (σ : St) (H : Heap) (locs : List Loc) (ls : Array Slot), k_3 v1 v2 v3 v4 v5 σ = some σ' → Wd D A s.heap (wMo cs a σ Λ) H locs → lv_has ls 8 [(0, .ref (a 0)), (1, .int v1), (2, .int v2), (3, .int v3), (4, .int v4), (5, .int v5)] → W p l e { frames := 0, cells := 0, slots := 0, locals := 0 } s m args below meth c H locs 0 0 Q (F0 m 3 ls [])) : ∀ (v1 : Int32) (v2 : Int32) (v3 : Int32) (v4 : Int32) (v5 : Int32) (v6 : Int32) (k0 : Int32) (σ : St) (H : Heap) (locs : List Loc) (ls : Array Slot), fMo_frees_56 k_3 N v1 v2 v3 v4 v5 v6 k0 σ = some σ' → Wd D A s.heap (wMo cs a σ Λ) H locs → lv_has ls 8 [(0, .ref (a 0)), (1, .int v1), (2, .int v2), (3, .int v3), (4, .int v4), (5, .int v5), (6, .int v6)] → W p l e { frames := 0, cells := 0, slots := 0, locals := 0 } s m args below meth c H locs 0 0 Q (F0 m 56 ls [.int k0]) := by
  intro v1 v2 v3 v4 v5 v6 k0 σ H locs ls h hW hl
  unfold fMo_frees_56 at h
  refine lv_istore (lv' := [(7, .int k0), (0, .ref (a 0)), (1, .int v1), (2, .int v2), (3, .int v3), (4, .int v4), (5, .int v5), (6, .int v6)]) S.1 S.2.1 dX7_frees_56 hl (by decide) rfl (fun ls hl => ?_)
  refine lv_aload_n S.1 S.2.1 dX7_frees_58 rfl (lv_at hl 1 rfl) ?_
  refine gMo_holds S hK hW dX7_frees_59 ?_
  refine lv_iload S.1 S.2.1 dX7_frees_62 (lv_at hl 6 rfl) ?_
  refine lv_iload S.1 S.2.1 dX7_frees_64 (lv_at hl 7 rfl) ?_
  refine lv_if_lt (tgt := 87) S.1 S.2.1 dX7_frees_66 (by decide) (fun c_4 => ?_) (fun c_4 => ?_)
  · have h := ite_t c_4 h
    exact wMo_frees_87 S hK hA hQ hk_3 v1 v2 v3 v4 v5 v6 v5 σ _ _ _ h hW (lv_sub hl [1, 2, 3, 4, 5, 6, 7] rfl)
  · have h := ite_f c_4 h
    refine lv_iload_n S.1 S.2.1 dX7_frees_69 rfl (lv_at hl 3 rfl) ?_
    refine lv_aload_n S.1 S.2.1 dX7_frees_70 rfl (lv_at hl 1 rfl) ?_
    refine gMo_went S hK hW dX7_frees_71 ?_
    refine lv_iload S.1 S.2.1 dX7_frees_74 (lv_at hl 7 rfl) ?_
    obtain ⟨hi_5, h⟩ := gI_some h
    refine lMo_went S hK hW hi_5 dX7_frees_76 ?_
    refine lv_isub S.1 S.2.1 dX7_frees_77 ?_
    refine lv_iload S.1 S.2.1 dX7_frees_78 (lv_at hl 0 rfl) ?_
    refine lv_icmp_lt (tgt := 87) S.1 S.2.1 dX7_frees_80 (by decide) (fun c_6 => ?_) (fun c_6 => ?_)
    · have h := ite_t c_6 h
      exact wMo_frees_87 S hK hA hQ hk_3 v1 v2 v3 v4 v5 v6 v5 σ _ _ _ h hW (lv_sub hl [1, 2, 3, 4, 5, 6, 7] rfl)
    · have h := ite_f c_6 h
      refine lv_iconst (v := -1) S.1 S.2.1 dX7_frees_83 (by decide) ?_
      refine lv_goto (tgt := 89) S.1 S.2.1 dX7_frees_84 (by decide) ?_
      exact wMo_frees_89 S hK hA hQ hk_3 v1 v2 v3 v4 v5 v5 (-1 : Int32) σ _ _ _ h hW (lv_sub hl [1, 2, 3, 4, 5, 6] rfl)
set_option maxHeartbeats 4000000 in
set_option maxRecDepth 100000 in
theorem wMo_frees_39 {p : Program} {l : Launch} {e : Env} {s : State} {m : MethodId} {args : Array Value} {below : List Frame} {meth : Method} {c : Code} {A : Nat → Prop} {Q : State → Prop} {D : va_G} {cs : Nat → ClassId} {a : Nat → Nat} {Λ : Nat → Int64} {σ' : St} {N : Nat} (S : Fx p m c cX7_frees 8 s args RX7) (hK : va_K D vwCl (tyL cs) s) (hA : ∀ x, s.heap.size ≤ x → A x) (hQ : ∀ (H : Heap) (locs : List Loc) (pc : Nat) (ls : Array Slot), decode cX7_frees pc = .ok (.return_, 1) → Wd D A s.heap (wMo cs a σ' Λ) H locs → W p l e { frames := 0, cells := 0, slots := 0, locals := 0 } s m args below meth c H locs 0 0 Q (F0 m pc ls [])) {k_3 : Int32 → Int32 → Int32 → Int32 → Int32 → St → Option (St)} (hk_3 : ∀ (v1 : Int32) (v2 : Int32) (v3 : Int32) (v4 : Int32) (v5 : Int32) (σ : St) (H : Heap) (locs : List Loc) (ls : Array Slot), k_3 v1 v2 v3 v4 v5 σ = some σ' → Wd D A s.heap (wMo cs a σ Λ) H locs → lv_has ls 8 [(0, .ref (a 0)), (1, .int v1), (2, .int v2), (3, .int v3), (4, .int v4), (5, .int v5)] → W p l e { frames := 0, cells := 0, slots := 0, locals := 0 } s m args below meth c H locs 0 0 Q (F0 m 3 ls [])) : ∀ (v1 : Int32) (v2 : Int32) (v3 : Int32) (v4 : Int32) (v5 : Int32) (v6 : Int32) (σ : St) (H : Heap) (locs : List Loc) (ls : Array Slot), fMo_frees_39 k_3 N v1 v2 v3 v4 v5 v6 σ = some σ' → Wd D A s.heap (wMo cs a σ Λ) H locs → lv_has ls 8 [(0, .ref (a 0)), (1, .int v1), (2, .int v2), (3, .int v3), (4, .int v4), (5, .int v5), (6, .int v6)] → W p l e { frames := 0, cells := 0, slots := 0, locals := 0 } s m args below meth c H locs 0 0 Q (F0 m 39 ls []) := by
  intro v1 v2 v3 v4 v5 v6 σ H locs ls h hW hl
  unfold fMo_frees_39 at h
  refine lv_iload_n S.1 S.2.1 dX7_frees_39 rfl (lv_at hl 1 rfl) ?_
  refine lv_iconst (v := 3) S.1 S.2.1 dX7_frees_40 (by decide) ?_
  refine lv_icmp_ne (tgt := 53) S.1 S.2.1 dX7_frees_41 (by decide) (fun c_7 => ?_) (fun c_7 => ?_)
  · have h := ite_f c_7 h
    refine lv_sipush (v := 1000) S.1 S.2.1 dX7_frees_53 (by decide) ?_
    exact wMo_frees_56 S hK hA hQ hk_3 v1 v2 v3 v4 v5 v6 (1000 : Int32) σ _ _ _ h hW (lv_sub hl [0, 1, 2, 3, 4, 5, 6] rfl)
  · have h := ite_t c_7 h
    refine lv_aload_n S.1 S.2.1 dX7_frees_44 rfl (lv_at hl 0 rfl) ?_
    refine gMo_told S hK hW dX7_frees_45 ?_
    refine lv_iconst (v := 2) S.1 S.2.1 dX7_frees_48 (by decide) ?_
    obtain ⟨hi_8, h⟩ := gI_some h
    refine lMo_told S hK hW hi_8 dX7_frees_49 ?_
    refine lv_goto (tgt := 56) S.1 S.2.1 dX7_frees_50 (by decide) ?_
    exact wMo_frees_56 S hK hA hQ hk_3 v1 v2 v3 v4 v5 v6 (σ 8 (2 : Int32).toNatClampNeg) σ _ _ _ h hW (lv_sub hl [0, 1, 2, 3, 4, 5, 6] rfl)
set_option maxHeartbeats 4000000 in
set_option maxRecDepth 100000 in
theorem wMo_frees_3 {p : Program} {l : Launch} {e : Env} {s : State} {m : MethodId} {args : Array Value} {below : List Frame} {meth : Method} {c : Code} {A : Nat → Prop} {Q : State → Prop} {D : va_G} {cs : Nat → ClassId} {a : Nat → Nat} {Λ : Nat → Int64} {σ' : St} {N : Nat} (S : Fx p m c cX7_frees 8 s args RX7) (hK : va_K D vwCl (tyL cs) s) (hA : ∀ x, s.heap.size ≤ x → A x) (hQ : ∀ (H : Heap) (locs : List Loc) (pc : Nat) (ls : Array Slot), decode cX7_frees pc = .ok (.return_, 1) → Wd D A s.heap (wMo cs a σ' Λ) H locs → W p l e { frames := 0, cells := 0, slots := 0, locals := 0 } s m args below meth c H locs 0 0 Q (F0 m pc ls [])) : ∀ (n_3 : Nat) (v1 : Int32) (v2 : Int32) (v3 : Int32) (v4 : Int32) (v5 : Int32) (σ : St) (H : Heap) (locs : List Loc) (ls : Array Slot), fMo_frees_3 N n_3 v1 v2 v3 v4 v5 σ = some σ' → Wd D A s.heap (wMo cs a σ Λ) H locs → lv_has ls 8 [(0, .ref (a 0)), (1, .int v1), (2, .int v2), (3, .int v3), (4, .int v4), (5, .int v5)] → W p l e { frames := 0, cells := 0, slots := 0, locals := 0 } s m args below meth c H locs 0 0 Q (F0 m 3 ls []) := by
  intro n_3
  induction n_3 with
  | zero =>
    intro v1 v2 v3 v4 v5 σ H locs ls h
    cases h
  | succ n_3 ih =>
    intro v1 v2 v3 v4 v5 σ H locs ls h hW hl
    unfold fMo_frees_3 at h
    refine lv_iload S.1 S.2.1 dX7_frees_3 (lv_at hl 5 rfl) ?_
    refine lv_aload_n S.1 S.2.1 dX7_frees_5 rfl (lv_at hl 0 rfl) ?_
    refine gMo_seats S hK hW dX7_frees_6 ?_
    refine lv_iconst (v := 0) S.1 S.2.1 dX7_frees_9 (by decide) ?_
    obtain ⟨hi_9, h⟩ := gI_some h
    refine lMo_seats S hK hW hi_9 dX7_frees_10 ?_
    refine lv_icmp_ge (tgt := 96) S.1 S.2.1 dX7_frees_11 (by decide) (fun c_10 => ?_) (fun c_10 => ?_)
    · have h := ite_t c_10 h
      obtain rfl := pr1 h
      exact hQ _ _ _ _ dX7_frees_96 hW
    · have h := ite_f c_10 h
      refine lv_aload_n S.1 S.2.1 dX7_frees_14 rfl (lv_at hl 0 rfl) ?_
      refine gMo_holds S hK hW dX7_frees_15 ?_
      refine lv_iload S.1 S.2.1 dX7_frees_18 (lv_at hl 5 rfl) ?_
      obtain ⟨hi_11, h⟩ := gI_some h
      refine lMo_holds S hK hW hi_11 dX7_frees_20 ?_
      refine lv_topi (fun x6_12 ex6_12 => ?_)
      have h := nm_to ex6_12 h
      refine lv_istore (lv' := [(6, .int x6_12), (0, .ref (a 0)), (1, .int v1), (2, .int v2), (3, .int v3), (4, .int v4), (5, .int v5)]) S.1 S.2.1 dX7_frees_21 hl (by decide) rfl (fun ls hl => ?_)
      refine lv_iload_n S.1 S.2.1 dX7_frees_23 rfl (lv_at hl 2 rfl) ?_
      refine lv_iconst (v := 2) S.1 S.2.1 dX7_frees_24 (by decide) ?_
      refine lv_icmp_ne (tgt := 39) S.1 S.2.1 dX7_frees_25 (by decide) (fun c_13 => ?_) (fun c_13 => ?_)
      · have h := ite_f c_13 h
        exact wMo_frees_39 S hK hA hQ ih v1 v2 v3 v4 v5 x6_12 σ _ _ _ h hW (lv_sub hl [1, 2, 3, 4, 5, 6, 0] rfl)
      · have h := ite_t c_13 h
        refine lv_iload_n S.1 S.2.1 dX7_frees_28 rfl (lv_at hl 3 rfl) ?_
        refine lv_iload S.1 S.2.1 dX7_frees_29 (lv_at hl 5 rfl) ?_
        obtain ⟨hz_14, h⟩ := gZ_some h
        refine lv_irem S.1 S.2.1 dX7_frees_31 hz_14 ?_
        refine lv_if_ne (tgt := 39) S.1 S.2.1 dX7_frees_32 (by decide) (fun c_15 => ?_) (fun c_15 => ?_)
        · have h := ite_f c_15 h
          exact wMo_frees_39 S hK hA hQ ih v1 v2 v3 v4 v5 x6_12 σ _ _ _ h hW (lv_sub hl [1, 2, 3, 4, 5, 6, 0] rfl)
        · have h := ite_t c_15 h
          refine lv_iload_n S.1 S.2.1 dX7_frees_35 rfl (lv_at hl 4 rfl) ?_
          refine lv_goto (tgt := 56) S.1 S.2.1 dX7_frees_36 (by decide) ?_
          exact wMo_frees_56 S hK hA hQ ih v1 v2 v3 v4 v5 x6_12 v3 σ _ _ _ h hW (lv_sub hl [1, 2, 3, 4, 5, 6, 0] rfl)
set_option maxHeartbeats 4000000 in
set_option maxRecDepth 100000 in
theorem cMo_frees (l : Launch) (D : va_G) (cs : Nat → ClassId) (a : Nat → Nat) (σ : St) (Λ : Nat → Int64) (p0 : Int32) (p1 : Int32) (p2 : Int32) (p3 : Int32) (N : Nat) {σ' : St} (h : fMo_frees N p0 p1 p2 p3 σ = some σ') : Kv l D cs none yX7_frees cX7_frees 8 none 0 0 (wMo cs a σ Λ) [.ref (a 0), .int p0, .int p1, .int p2, .int p3] (wMo cs a σ' Λ) := by
  refine Kv_of (by decide +kernel) (Nat.le_of_ble_eq_true rfl) (fun p e s m below meth c A S hK hA hZ Q hQ ls hl hW => ?_)
  have hl : lv_has ls 8 [(0, .ref (a 0)), (1, .int p0), (2, .int p1), (3, .int p2), (4, .int p3)] := hl
  unfold fMo_frees at h
  refine lv_iconst (v := 0) S.1 S.2.1 dX7_frees_0 (by decide) ?_
  refine lv_istore (lv' := [(5, .int (0 : Int32)), (0, .ref (a 0)), (1, .int p0), (2, .int p1), (3, .int p2), (4, .int p3)]) S.1 S.2.1 dX7_frees_1 hl (by decide) rfl (fun ls hl => ?_)
  exact wMo_frees_3 S hK hA hQ N p0 p1 p2 p3 (0 : Int32) σ _ _ _ h hW (lv_sub hl [1, 2, 3, 4, 5, 0] rfl)
set_option maxHeartbeats 4000000 in
set_option maxRecDepth 100000 in
theorem cMo_bits (l : Launch) (D : va_G) (cs : Nat → ClassId) (p0 : Int32) (N : Nat) {r : Int32} (h : fMo_bits N p0 = some r) : Ki l D cs none yX7_bits cX7_bits 1 (some .int) 0 0 [] [.int p0] r [] := by
  refine Ki_of (by decide +kernel) (Nat.le_of_ble_eq_true rfl) (fun p e s m below meth c A S hK hA hZ Q hQ ls hl hW => ?_)
  have hl : lv_has ls 1 [(0, .int p0)] := hl
  unfold fMo_bits at h
  refine lv_iload_n S.1 S.2.1 dX7_bits_0 rfl (lv_at hl 0 rfl) ?_
  refine lv_iconst (v := 1) S.1 S.2.1 dX7_bits_1 (by decide) ?_
  refine lv_iand S.1 S.2.1 dX7_bits_2 ?_
  refine lv_iload_n S.1 S.2.1 dX7_bits_3 rfl (lv_at hl 0 rfl) ?_
  refine lv_iconst (v := 1) S.1 S.2.1 dX7_bits_4 (by decide) ?_
  refine lv_ishr S.1 S.2.1 dX7_bits_5 ?_
  refine lv_iconst (v := 1) S.1 S.2.1 dX7_bits_6 (by decide) ?_
  refine lv_iand S.1 S.2.1 dX7_bits_7 ?_
  refine lv_iadd S.1 S.2.1 dX7_bits_8 ?_
  obtain rfl := pr1 h
  exact hQ _ _ _ _ dX7_bits_9 rfl hW
set_option maxHeartbeats 4000000 in
set_option maxRecDepth 100000 in
theorem wMo_takesSeat_88 {p : Program} {l : Launch} {e : Env} {s : State} {m : MethodId} {args : Array Value} {below : List Frame} {meth : Method} {c : Code} {A : Nat → Prop} {Q : State → Prop} {D : va_G} {cs : Nat → ClassId} {a : Nat → Nat} {σ : St} {Λ : Nat → Int64} {r : Int32} {N : Nat} (S : Fx p m c cX7_takesSeat 7 s args RX7) (hK : va_K D vwCl (tyL cs) s) (hA : ∀ x, s.heap.size ≤ x → A x) (hQ : ∀ (H : Heap) (locs : List Loc) (pc : Nat) (ls : Array Slot), decode cX7_takesSeat pc = .ok (.ireturn, 1) → narrow .int (.int r) = .int r → Wd D A s.heap (wMo cs a σ Λ) H locs → W p l e { frames := 1, cells := 0, slots := 0, locals := 22 } s m args below meth c H locs 0 0 Q (F0 m pc ls [.int r])) {k_6 : Int32 → Int32 → Int32 → Int32 → Int32 → Option (Int32)} (hk_6 : ∀ (v1 : Int32) (v2 : Int32) (v3 : Int32) (v4 : Int32) (v5 : Int32) (H : Heap) (locs : List Loc) (ls : Array Slot), k_6 v1 v2 v3 v4 v5 = some r → Wd D A s.heap (wMo cs a σ Λ) H locs → lv_has ls 7 [(0, .ref (a 0)), (1, .int v1), (2, .int v2), (3, .int v3), (4, .int v4), (5, .int v5)] → W p l e { frames := 1, cells := 0, slots := 0, locals := 22 } s m args below meth c H locs 0 0 Q (F0 m 6 ls [])) : ∀ (v1 : Int32) (v2 : Int32) (v3 : Int32) (v4 : Int32) (v5 : Int32) (H : Heap) (locs : List Loc) (ls : Array Slot), fMo_takesSeat_88 k_6 N σ v1 v2 v3 v4 v5 = some r → Wd D A s.heap (wMo cs a σ Λ) H locs → lv_has ls 7 [(0, .ref (a 0)), (1, .int v1), (2, .int v2), (3, .int v3), (4, .int v4), (5, .int v5)] → W p l e { frames := 1, cells := 0, slots := 0, locals := 22 } s m args below meth c H locs 0 0 Q (F0 m 88 ls []) := by
  intro v1 v2 v3 v4 v5 H locs ls h hW hl
  unfold fMo_takesSeat_88 at h
  obtain ⟨x5_1, ex5_1, h⟩ := nm_some h
  refine lv_iinc (v := x5_1) (lv' := [(5, .int x5_1), (0, .ref (a 0)), (1, .int v1), (2, .int v2), (3, .int v3), (4, .int v4)]) S.1 S.2.1 dX7_takesSeat_88 hl (k := 5) rfl (by rw [ex5_1]; rfl) (by decide) rfl (fun ls hl => ?_)
  refine lv_goto (tgt := 6) S.1 S.2.1 dX7_takesSeat_91 (by decide) ?_
  exact hk_6 v1 v2 v3 v4 x5_1 _ _ _ h hW (lv_sub hl [1, 2, 3, 4, 5, 0] rfl)
set_option maxHeartbeats 4000000 in
set_option maxRecDepth 100000 in
theorem wMo_takesSeat_86 {p : Program} {l : Launch} {e : Env} {s : State} {m : MethodId} {args : Array Value} {below : List Frame} {meth : Method} {c : Code} {A : Nat → Prop} {Q : State → Prop} {D : va_G} {cs : Nat → ClassId} {a : Nat → Nat} {σ : St} {Λ : Nat → Int64} {r : Int32} {N : Nat} (S : Fx p m c cX7_takesSeat 7 s args RX7) (hK : va_K D vwCl (tyL cs) s) (hA : ∀ x, s.heap.size ≤ x → A x) (hQ : ∀ (H : Heap) (locs : List Loc) (pc : Nat) (ls : Array Slot), decode cX7_takesSeat pc = .ok (.ireturn, 1) → narrow .int (.int r) = .int r → Wd D A s.heap (wMo cs a σ Λ) H locs → W p l e { frames := 1, cells := 0, slots := 0, locals := 22 } s m args below meth c H locs 0 0 Q (F0 m pc ls [.int r])) {k_6 : Int32 → Int32 → Int32 → Int32 → Int32 → Option (Int32)} (hk_6 : ∀ (v1 : Int32) (v2 : Int32) (v3 : Int32) (v4 : Int32) (v5 : Int32) (H : Heap) (locs : List Loc) (ls : Array Slot), k_6 v1 v2 v3 v4 v5 = some r → Wd D A s.heap (wMo cs a σ Λ) H locs → lv_has ls 7 [(0, .ref (a 0)), (1, .int v1), (2, .int v2), (3, .int v3), (4, .int v4), (5, .int v5)] → W p l e { frames := 1, cells := 0, slots := 0, locals := 22 } s m args below meth c H locs 0 0 Q (F0 m 6 ls [])) : ∀ (v1 : Int32) (v2 : Int32) (v3 : Int32) (v5 : Int32) (k0 : Int32) (H : Heap) (locs : List Loc) (ls : Array Slot), fMo_takesSeat_86 k_6 N σ v1 v2 v3 v5 k0 = some r → Wd D A s.heap (wMo cs a σ Λ) H locs → lv_has ls 7 [(0, .ref (a 0)), (1, .int v1), (2, .int v2), (3, .int v3), (5, .int v5)] → W p l e { frames := 1, cells := 0, slots := 0, locals := 22 } s m args below meth c H locs 0 0 Q (F0 m 86 ls [.int k0]) := by
  intro v1 v2 v3 v5 k0 H locs ls h hW hl
  unfold fMo_takesSeat_86 at h
  refine lv_istore (lv' := [(4, .int k0), (0, .ref (a 0)), (1, .int v1), (2, .int v2), (3, .int v3), (5, .int v5)]) S.1 S.2.1 dX7_takesSeat_86 hl (by decide) rfl (fun ls hl => ?_)
  exact wMo_takesSeat_88 S hK hA hQ hk_6 v1 v2 v3 k0 v5 _ _ _ h hW (lv_sub hl [1, 2, 3, 4, 0, 5] rfl)
set_option maxHeartbeats 4000000 in
set_option maxRecDepth 100000 in
theorem wMo_takesSeat_79 {p : Program} {l : Launch} {e : Env} {s : State} {m : MethodId} {args : Array Value} {below : List Frame} {meth : Method} {c : Code} {A : Nat → Prop} {Q : State → Prop} {D : va_G} {cs : Nat → ClassId} {a : Nat → Nat} {σ : St} {Λ : Nat → Int64} {r : Int32} {N : Nat} (S : Fx p m c cX7_takesSeat 7 s args RX7) (hK : va_K D vwCl (tyL cs) s) (hA : ∀ x, s.heap.size ≤ x → A x) (hQ : ∀ (H : Heap) (locs : List Loc) (pc : Nat) (ls : Array Slot), decode cX7_takesSeat pc = .ok (.ireturn, 1) → narrow .int (.int r) = .int r → Wd D A s.heap (wMo cs a σ Λ) H locs → W p l e { frames := 1, cells := 0, slots := 0, locals := 22 } s m args below meth c H locs 0 0 Q (F0 m pc ls [.int r])) {k_6 : Int32 → Int32 → Int32 → Int32 → Int32 → Option (Int32)} (hk_6 : ∀ (v1 : Int32) (v2 : Int32) (v3 : Int32) (v4 : Int32) (v5 : Int32) (H : Heap) (locs : List Loc) (ls : Array Slot), k_6 v1 v2 v3 v4 v5 = some r → Wd D A s.heap (wMo cs a σ Λ) H locs → lv_has ls 7 [(0, .ref (a 0)), (1, .int v1), (2, .int v2), (3, .int v3), (4, .int v4), (5, .int v5)] → W p l e { frames := 1, cells := 0, slots := 0, locals := 22 } s m args below meth c H locs 0 0 Q (F0 m 6 ls [])) : ∀ (v1 : Int32) (v2 : Int32) (v3 : Int32) (v5 : Int32) (H : Heap) (locs : List Loc) (ls : Array Slot), fMo_takesSeat_79 k_6 N σ v1 v2 v3 v5 = some r → Wd D A s.heap (wMo cs a σ Λ) H locs → lv_has ls 7 [(0, .ref (a 0)), (1, .int v1), (2, .int v2), (3, .int v3), (5, .int v5)] → W p l e { frames := 1, cells := 0, slots := 0, locals := 22 } s m args below meth c H locs 0 0 Q (F0 m 79 ls []) := by
  intro v1 v2 v3 v5 H locs ls h hW hl
  unfold fMo_takesSeat_79 at h
  refine lv_iload S.1 S.2.1 dX7_takesSeat_79 (lv_at hl 4 rfl) ?_
  refine lv_goto (tgt := 86) S.1 S.2.1 dX7_takesSeat_81 (by decide) ?_
  exact wMo_takesSeat_86 S hK hA hQ hk_6 v1 v2 v3 v5 v5 _ _ _ h hW (lv_sub hl [0, 1, 2, 3, 4] rfl)
set_option maxHeartbeats 4000000 in
set_option maxRecDepth 100000 in
theorem wMo_takesSeat_169 {p : Program} {l : Launch} {e : Env} {s : State} {m : MethodId} {args : Array Value} {below : List Frame} {meth : Method} {c : Code} {A : Nat → Prop} {Q : State → Prop} {D : va_G} {cs : Nat → ClassId} {a : Nat → Nat} {σ : St} {Λ : Nat → Int64} {r : Int32} {N : Nat} (S : Fx p m c cX7_takesSeat 7 s args RX7) (hK : va_K D vwCl (tyL cs) s) (hA : ∀ x, s.heap.size ≤ x → A x) (hQ : ∀ (H : Heap) (locs : List Loc) (pc : Nat) (ls : Array Slot), decode cX7_takesSeat pc = .ok (.ireturn, 1) → narrow .int (.int r) = .int r → Wd D A s.heap (wMo cs a σ Λ) H locs → W p l e { frames := 1, cells := 0, slots := 0, locals := 22 } s m args below meth c H locs 0 0 Q (F0 m pc ls [.int r])) {k_97 : Int32 → Int32 → Int32 → Int32 → Int32 → Option (Int32)} (hk_97 : ∀ (v1 : Int32) (v2 : Int32) (v3 : Int32) (v4 : Int32) (v5 : Int32) (H : Heap) (locs : List Loc) (ls : Array Slot), k_97 v1 v2 v3 v4 v5 = some r → Wd D A s.heap (wMo cs a σ Λ) H locs → lv_has ls 7 [(0, .ref (a 0)), (1, .int v1), (2, .int v2), (3, .int v3), (4, .int v4), (5, .int v5)] → W p l e { frames := 1, cells := 0, slots := 0, locals := 22 } s m args below meth c H locs 0 0 Q (F0 m 97 ls [])) : ∀ (v1 : Int32) (v2 : Int32) (v3 : Int32) (v5 : Int32) (k0 : Int32) (H : Heap) (locs : List Loc) (ls : Array Slot), fMo_takesSeat_169 k_97 N σ v1 v2 v3 v5 k0 = some r → Wd D A s.heap (wMo cs a σ Λ) H locs → lv_has ls 7 [(0, .ref (a 0)), (1, .int v1), (2, .int v2), (3, .int v3), (5, .int v5)] → W p l e { frames := 1, cells := 0, slots := 0, locals := 22 } s m args below meth c H locs 0 0 Q (F0 m 169 ls [.int k0]) := by
  intro v1 v2 v3 v5 k0 H locs ls h hW hl
  unfold fMo_takesSeat_169 at h
  refine lv_istore (lv' := [(4, .int k0), (0, .ref (a 0)), (1, .int v1), (2, .int v2), (3, .int v3), (5, .int v5)]) S.1 S.2.1 dX7_takesSeat_169 hl (by decide) rfl (fun ls hl => ?_)
  obtain ⟨x5_2, ex5_2, h⟩ := nm_some h
  refine lv_iinc (v := x5_2) (lv' := [(5, .int x5_2), (4, .int k0), (0, .ref (a 0)), (1, .int v1), (2, .int v2), (3, .int v3)]) S.1 S.2.1 dX7_takesSeat_171 hl (k := 5) rfl (by rw [ex5_2]; rfl) (by decide) rfl (fun ls hl => ?_)
  refine lv_goto (tgt := 97) S.1 S.2.1 dX7_takesSeat_174 (by decide) ?_
  exact hk_97 v1 v2 v3 k0 x5_2 _ _ _ h hW (lv_sub hl [2, 3, 4, 5, 1, 0] rfl)
set_option maxHeartbeats 4000000 in
set_option maxRecDepth 100000 in
theorem wMo_takesSeat_167 {p : Program} {l : Launch} {e : Env} {s : State} {m : MethodId} {args : Array Value} {below : List Frame} {meth : Method} {c : Code} {A : Nat → Prop} {Q : State → Prop} {D : va_G} {cs : Nat → ClassId} {a : Nat → Nat} {σ : St} {Λ : Nat → Int64} {r : Int32} {N : Nat} (S : Fx p m c cX7_takesSeat 7 s args RX7) (hK : va_K D vwCl (tyL cs) s) (hA : ∀ x, s.heap.size ≤ x → A x) (hQ : ∀ (H : Heap) (locs : List Loc) (pc : Nat) (ls : Array Slot), decode cX7_takesSeat pc = .ok (.ireturn, 1) → narrow .int (.int r) = .int r → Wd D A s.heap (wMo cs a σ Λ) H locs → W p l e { frames := 1, cells := 0, slots := 0, locals := 22 } s m args below meth c H locs 0 0 Q (F0 m pc ls [.int r])) {k_97 : Int32 → Int32 → Int32 → Int32 → Int32 → Option (Int32)} (hk_97 : ∀ (v1 : Int32) (v2 : Int32) (v3 : Int32) (v4 : Int32) (v5 : Int32) (H : Heap) (locs : List Loc) (ls : Array Slot), k_97 v1 v2 v3 v4 v5 = some r → Wd D A s.heap (wMo cs a σ Λ) H locs → lv_has ls 7 [(0, .ref (a 0)), (1, .int v1), (2, .int v2), (3, .int v3), (4, .int v4), (5, .int v5)] → W p l e { frames := 1, cells := 0, slots := 0, locals := 22 } s m args below meth c H locs 0 0 Q (F0 m 97 ls [])) : ∀ (v1 : Int32) (v2 : Int32) (v3 : Int32) (v4 : Int32) (v5 : Int32) (H : Heap) (locs : List Loc) (ls : Array Slot), fMo_takesSeat_167 k_97 N σ v1 v2 v3 v4 v5 = some r → Wd D A s.heap (wMo cs a σ Λ) H locs → lv_has ls 7 [(0, .ref (a 0)), (1, .int v1), (2, .int v2), (3, .int v3), (4, .int v4), (5, .int v5)] → W p l e { frames := 1, cells := 0, slots := 0, locals := 22 } s m args below meth c H locs 0 0 Q (F0 m 167 ls []) := by
  intro v1 v2 v3 v4 v5 H locs ls h hW hl
  unfold fMo_takesSeat_167 at h
  refine lv_iload S.1 S.2.1 dX7_takesSeat_167 (lv_at hl 4 rfl) ?_
  exact wMo_takesSeat_169 S hK hA hQ hk_97 v1 v2 v3 v5 v4 _ _ _ h hW (lv_sub hl [0, 1, 2, 3, 5] rfl)
set_option maxHeartbeats 4000000 in
set_option maxRecDepth 100000 in
theorem wMo_takesSeat_177 {p : Program} {l : Launch} {e : Env} {s : State} {m : MethodId} {args : Array Value} {below : List Frame} {meth : Method} {c : Code} {A : Nat → Prop} {Q : State → Prop} {D : va_G} {cs : Nat → ClassId} {a : Nat → Nat} {σ : St} {Λ : Nat → Int64} {r : Int32} {N : Nat} (S : Fx p m c cX7_takesSeat 7 s args RX7) (hK : va_K D vwCl (tyL cs) s) (hA : ∀ x, s.heap.size ≤ x → A x) (hQ : ∀ (H : Heap) (locs : List Loc) (pc : Nat) (ls : Array Slot), decode cX7_takesSeat pc = .ok (.ireturn, 1) → narrow .int (.int r) = .int r → Wd D A s.heap (wMo cs a σ Λ) H locs → W p l e { frames := 1, cells := 0, slots := 0, locals := 22 } s m args below meth c H locs 0 0 Q (F0 m pc ls [.int r])) : ∀ (v4 : Int32) (H : Heap) (locs : List Loc) (ls : Array Slot), fMo_takesSeat_177 N σ v4 = some r → Wd D A s.heap (wMo cs a σ Λ) H locs → lv_has ls 7 [(4, .int v4)] → W p l e { frames := 1, cells := 0, slots := 0, locals := 22 } s m args below meth c H locs 0 0 Q (F0 m 177 ls []) := by
  intro v4 H locs ls h hW hl
  unfold fMo_takesSeat_177 at h
  refine lv_iload S.1 S.2.1 dX7_takesSeat_177 (lv_at hl 0 rfl) ?_
  obtain rfl := pr1 h
  exact hQ _ _ _ _ dX7_takesSeat_179 rfl hW
set_option maxHeartbeats 4000000 in
set_option maxRecDepth 100000 in
theorem wMo_takesSeat_97 {p : Program} {l : Launch} {e : Env} {s : State} {m : MethodId} {args : Array Value} {below : List Frame} {meth : Method} {c : Code} {A : Nat → Prop} {Q : State → Prop} {D : va_G} {cs : Nat → ClassId} {a : Nat → Nat} {σ : St} {Λ : Nat → Int64} {r : Int32} {N : Nat} (S : Fx p m c cX7_takesSeat 7 s args RX7) (hK : va_K D vwCl (tyL cs) s) (hA : ∀ x, s.heap.size ≤ x → A x) (hQ : ∀ (H : Heap) (locs : List Loc) (pc : Nat) (ls : Array Slot), decode cX7_takesSeat pc = .ok (.ireturn, 1) → narrow .int (.int r) = .int r → Wd D A s.heap (wMo cs a σ Λ) H locs → W p l e { frames := 1, cells := 0, slots := 0, locals := 22 } s m args below meth c H locs 0 0 Q (F0 m pc ls [.int r])) : ∀ (n_97 : Nat) (v1 : Int32) (v2 : Int32) (v3 : Int32) (v4 : Int32) (v5 : Int32) (H : Heap) (locs : List Loc) (ls : Array Slot), fMo_takesSeat_97 N σ n_97 v1 v2 v3 v4 v5 = some r → Wd D A s.heap (wMo cs a σ Λ) H locs → lv_has ls 7 [(0, .ref (a 0)), (1, .int v1), (2, .int v2), (3, .int v3), (4, .int v4), (5, .int v5)] → W p l e { frames := 1, cells := 0, slots := 0, locals := 22 } s m args below meth c H locs 0 0 Q (F0 m 97 ls []) := by
  intro n_97
  induction n_97 with
  | zero =>
    intro v1 v2 v3 v4 v5 H locs ls h
    cases h
  | succ n_97 ih =>
    intro v1 v2 v3 v4 v5 H locs ls h hW hl
    unfold fMo_takesSeat_97 at h
    refine lv_iload S.1 S.2.1 dX7_takesSeat_97 (lv_at hl 5 rfl) ?_
    refine lv_aload_n S.1 S.2.1 dX7_takesSeat_99 rfl (lv_at hl 0 rfl) ?_
    refine gMo_seats S hK hW dX7_takesSeat_100 ?_
    refine lv_iconst (v := 0) S.1 S.2.1 dX7_takesSeat_103 (by decide) ?_
    obtain ⟨hi_3, h⟩ := gI_some h
    refine lMo_seats S hK hW hi_3 dX7_takesSeat_104 ?_
    refine lv_icmp_ge (tgt := 177) S.1 S.2.1 dX7_takesSeat_105 (by decide) (fun c_4 => ?_) (fun c_4 => ?_)
    · have h := ite_t c_4 h
      exact wMo_takesSeat_177 S hK hA hQ v4 _ _ _ h hW (lv_sub hl [4] rfl)
    · have h := ite_f c_4 h
      refine lv_iload S.1 S.2.1 dX7_takesSeat_108 (lv_at hl 4 rfl) ?_
      refine lv_if_ge (tgt := 177) S.1 S.2.1 dX7_takesSeat_110 (by decide) (fun c_5 => ?_) (fun c_5 => ?_)
      · have h := ite_t c_5 h
        exact wMo_takesSeat_177 S hK hA hQ v4 _ _ _ h hW (lv_sub hl [4] rfl)
      · have h := ite_f c_5 h
        refine lv_iload_n S.1 S.2.1 dX7_takesSeat_113 rfl (lv_at hl 1 rfl) ?_
        refine lv_iconst (v := 4) S.1 S.2.1 dX7_takesSeat_114 (by decide) ?_
        refine lv_icmp_ne (tgt := 177) S.1 S.2.1 dX7_takesSeat_115 (by decide) (fun c_6 => ?_) (fun c_6 => ?_)
        · have h := ite_f c_6 h
          exact wMo_takesSeat_177 S hK hA hQ v4 _ _ _ h hW (lv_sub hl [4] rfl)
        · have h := ite_t c_6 h
          refine lv_aload_n S.1 S.2.1 dX7_takesSeat_118 rfl (lv_at hl 0 rfl) ?_
          refine gMo_holds S hK hW dX7_takesSeat_119 ?_
          refine lv_iload S.1 S.2.1 dX7_takesSeat_122 (lv_at hl 5 rfl) ?_
          obtain ⟨hi_7, h⟩ := gI_some h
          refine lMo_holds S hK hW hi_7 dX7_takesSeat_124 ?_
          refine lv_topi (fun x6_8 ex6_8 => ?_)
          have h := nm_to ex6_8 h
          refine lv_istore (lv' := [(6, .int x6_8), (0, .ref (a 0)), (1, .int v1), (2, .int v2), (3, .int v3), (4, .int v4), (5, .int v5)]) S.1 S.2.1 dX7_takesSeat_125 hl (by decide) rfl (fun ls hl => ?_)
          refine lv_iload S.1 S.2.1 dX7_takesSeat_127 (lv_at hl 0 rfl) ?_
          refine lv_if_lt (tgt := 167) S.1 S.2.1 dX7_takesSeat_129 (by decide) (fun c_9 => ?_) (fun c_9 => ?_)
          · have h := ite_t c_9 h
            exact wMo_takesSeat_167 S hK hA hQ ih v1 v2 v3 v4 v5 _ _ _ h hW (lv_sub hl [1, 2, 3, 4, 5, 6] rfl)
          · have h := ite_f c_9 h
            refine lv_aload_n S.1 S.2.1 dX7_takesSeat_132 rfl (lv_at hl 1 rfl) ?_
            refine lv_iload S.1 S.2.1 dX7_takesSeat_133 (lv_at hl 0 rfl) ?_
            refine lv_iconst (v := 5) S.1 S.2.1 dX7_takesSeat_135 (by decide) ?_
            obtain ⟨r_10, hc_11, h⟩ := cl1_some h
            have hW := kw_same hW
            refine kV_i (As := [.int x6_8, .int (5 : Int32)]) (rest := []) S hK hA (z := none) trivial [] [] hW (cMo_of l D cs a σ Λ x6_8 (5 : Int32) N hc_11) (ci := 6) rfl rfl lk_X7_135 q825 q26 ⟨Nat.le_of_ble_eq_true rfl, Nat.le_of_ble_eq_true rfl⟩ rfl (Nat.le_of_ble_eq_true rfl) hl.1 dX7_takesSeat_136 ⟨Nat.zero_le _, Nat.zero_le _⟩ (fun H locs hW => ?_)
            have hW : Wd D A s.heap (wMo cs a σ Λ) H locs := kw_back hW
            refine lv_aload_n S.1 S.2.1 dX7_takesSeat_139 rfl (lv_at hl 1 rfl) ?_
            refine lv_iload_n S.1 S.2.1 dX7_takesSeat_140 rfl (lv_at hl 3 rfl) ?_
            refine lv_bipush (v := 6) S.1 S.2.1 dX7_takesSeat_141 (by decide) ?_
            obtain ⟨r_12, hc_13, h⟩ := cl1_some h
            have hW := kw_same hW
            refine kV_i (As := [.int v2, .int (6 : Int32)]) (rest := [.int r_10]) S hK hA (z := none) trivial [] [] hW (cMo_of l D cs a σ Λ v2 (6 : Int32) N hc_13) (ci := 6) rfl rfl lk_X7_135 q825 q26 ⟨Nat.le_of_ble_eq_true rfl, Nat.le_of_ble_eq_true rfl⟩ rfl (Nat.le_of_ble_eq_true rfl) hl.1 dX7_takesSeat_143 ⟨Nat.zero_le _, Nat.zero_le _⟩ (fun H locs hW => ?_)
            have hW : Wd D A s.heap (wMo cs a σ Λ) H locs := kw_back hW
            refine lv_iload_n S.1 S.2.1 dX7_takesSeat_146 rfl (lv_at hl 4 rfl) ?_
            refine lv_aload_n S.1 S.2.1 dX7_takesSeat_147 rfl (lv_at hl 1 rfl) ?_
            refine gMo_went S hK hW dX7_takesSeat_148 ?_
            refine lv_iload S.1 S.2.1 dX7_takesSeat_151 (lv_at hl 0 rfl) ?_
            obtain ⟨hi_14, h⟩ := gI_some h
            refine lMo_went S hK hW hi_14 dX7_takesSeat_153 ?_
            refine lv_isub S.1 S.2.1 dX7_takesSeat_154 ?_
            refine lv_bipush (v := 10) S.1 S.2.1 dX7_takesSeat_155 (by decide) ?_
            refine lv_idiv S.1 S.2.1 dX7_takesSeat_157 (by decide) ?_
            refine lv_iadd S.1 S.2.1 dX7_takesSeat_158 ?_
            refine lv_icmp_gt (tgt := 167) S.1 S.2.1 dX7_takesSeat_159 (by decide) (fun c_15 => ?_) (fun c_15 => ?_)
            · have h := ite_t c_15 h
              exact wMo_takesSeat_167 S hK hA hQ ih v1 v2 v3 v4 v5 _ _ _ h hW (lv_sub hl [1, 2, 3, 4, 5, 6] rfl)
            · have h := ite_f c_15 h
              refine lv_iload S.1 S.2.1 dX7_takesSeat_162 (lv_at hl 6 rfl) ?_
              refine lv_goto (tgt := 169) S.1 S.2.1 dX7_takesSeat_164 (by decide) ?_
              exact wMo_takesSeat_169 S hK hA hQ ih v1 v2 v3 v5 v5 _ _ _ h hW (lv_sub hl [1, 2, 3, 4, 6] rfl)
set_option maxHeartbeats 4000000 in
set_option maxRecDepth 100000 in
theorem wMo_takesSeat_6 {p : Program} {l : Launch} {e : Env} {s : State} {m : MethodId} {args : Array Value} {below : List Frame} {meth : Method} {c : Code} {A : Nat → Prop} {Q : State → Prop} {D : va_G} {cs : Nat → ClassId} {a : Nat → Nat} {σ : St} {Λ : Nat → Int64} {r : Int32} {N : Nat} (S : Fx p m c cX7_takesSeat 7 s args RX7) (hK : va_K D vwCl (tyL cs) s) (hA : ∀ x, s.heap.size ≤ x → A x) (hQ : ∀ (H : Heap) (locs : List Loc) (pc : Nat) (ls : Array Slot), decode cX7_takesSeat pc = .ok (.ireturn, 1) → narrow .int (.int r) = .int r → Wd D A s.heap (wMo cs a σ Λ) H locs → W p l e { frames := 1, cells := 0, slots := 0, locals := 22 } s m args below meth c H locs 0 0 Q (F0 m pc ls [.int r])) : ∀ (n_6 : Nat) (v1 : Int32) (v2 : Int32) (v3 : Int32) (v4 : Int32) (v5 : Int32) (H : Heap) (locs : List Loc) (ls : Array Slot), fMo_takesSeat_6 N σ n_6 v1 v2 v3 v4 v5 = some r → Wd D A s.heap (wMo cs a σ Λ) H locs → lv_has ls 7 [(0, .ref (a 0)), (1, .int v1), (2, .int v2), (3, .int v3), (4, .int v4), (5, .int v5)] → W p l e { frames := 1, cells := 0, slots := 0, locals := 22 } s m args below meth c H locs 0 0 Q (F0 m 6 ls []) := by
  intro n_6
  induction n_6 with
  | zero =>
    intro v1 v2 v3 v4 v5 H locs ls h
    cases h
  | succ n_6 ih =>
    intro v1 v2 v3 v4 v5 H locs ls h hW hl
    unfold fMo_takesSeat_6 at h
    refine lv_iload S.1 S.2.1 dX7_takesSeat_6 (lv_at hl 5 rfl) ?_
    refine lv_aload_n S.1 S.2.1 dX7_takesSeat_8 rfl (lv_at hl 0 rfl) ?_
    refine gMo_seats S hK hW dX7_takesSeat_9 ?_
    refine lv_iconst (v := 0) S.1 S.2.1 dX7_takesSeat_12 (by decide) ?_
    obtain ⟨hi_16, h⟩ := gI_some h
    refine lMo_seats S hK hW hi_16 dX7_takesSeat_13 ?_
    refine lv_icmp_ge (tgt := 94) S.1 S.2.1 dX7_takesSeat_14 (by decide) (fun c_17 => ?_) (fun c_17 => ?_)
    · have h := ite_t c_17 h
      refine lv_iconst (v := 0) S.1 S.2.1 dX7_takesSeat_94 (by decide) ?_
      refine lv_istore (lv' := [(5, .int (0 : Int32)), (0, .ref (a 0)), (1, .int v1), (2, .int v2), (3, .int v3), (4, .int v4)]) S.1 S.2.1 dX7_takesSeat_95 hl (by decide) rfl (fun ls hl => ?_)
      exact wMo_takesSeat_97 S hK hA hQ N v1 v2 v3 v4 (0 : Int32) _ _ _ h hW (lv_sub hl [1, 2, 3, 4, 5, 0] rfl)
    · have h := ite_f c_17 h
      refine lv_aload_n S.1 S.2.1 dX7_takesSeat_17 rfl (lv_at hl 0 rfl) ?_
      refine gMo_sits S hK hW dX7_takesSeat_18 ?_
      refine lv_iload S.1 S.2.1 dX7_takesSeat_21 (lv_at hl 5 rfl) ?_
      obtain ⟨hi_18, h⟩ := gI_some h
      refine lMo_sits S hK hW hi_18 dX7_takesSeat_23 ?_
      refine lv_if_ge (tgt := 88) S.1 S.2.1 dX7_takesSeat_24 (by decide) (fun c_19 => ?_) (fun c_19 => ?_)
      · have h := ite_t c_19 h
        exact wMo_takesSeat_88 S hK hA hQ ih v1 v2 v3 v4 v5 _ _ _ h hW (lv_sub hl [0, 1, 2, 3, 4, 5] rfl)
      · have h := ite_f c_19 h
        refine lv_aload_n S.1 S.2.1 dX7_takesSeat_27 rfl (lv_at hl 0 rfl) ?_
        refine gMo_holds S hK hW dX7_takesSeat_28 ?_
        refine lv_iload S.1 S.2.1 dX7_takesSeat_31 (lv_at hl 5 rfl) ?_
        obtain ⟨hi_20, h⟩ := gI_some h
        refine lMo_holds S hK hW hi_20 dX7_takesSeat_33 ?_
        refine lv_if_ge (tgt := 88) S.1 S.2.1 dX7_takesSeat_34 (by decide) (fun c_21 => ?_) (fun c_21 => ?_)
        · have h := ite_t c_21 h
          exact wMo_takesSeat_88 S hK hA hQ ih v1 v2 v3 v4 v5 _ _ _ h hW (lv_sub hl [0, 1, 2, 3, 4, 5] rfl)
        · have h := ite_f c_21 h
          refine lv_iload S.1 S.2.1 dX7_takesSeat_37 (lv_at hl 4 rfl) ?_
          refine lv_if_lt (tgt := 79) S.1 S.2.1 dX7_takesSeat_39 (by decide) (fun c_22 => ?_) (fun c_22 => ?_)
          · have h := ite_t c_22 h
            exact wMo_takesSeat_79 S hK hA hQ ih v1 v2 v3 v5 _ _ _ h hW (lv_sub hl [0, 1, 2, 3, 5] rfl)
          · have h := ite_f c_22 h
            refine lv_aload_n S.1 S.2.1 dX7_takesSeat_42 rfl (lv_at hl 0 rfl) ?_
            refine gMo_kind S hK hW dX7_takesSeat_43 ?_
            refine lv_iload S.1 S.2.1 dX7_takesSeat_46 (lv_at hl 5 rfl) ?_
            obtain ⟨hi_23, h⟩ := gI_some h
            refine lMo_kind S hK hW hi_23 dX7_takesSeat_48 ?_
            refine lv_aload_n S.1 S.2.1 dX7_takesSeat_49 rfl (lv_at hl 0 rfl) ?_
            refine lv_iload_n S.1 S.2.1 dX7_takesSeat_50 rfl (lv_at hl 2 rfl) ?_
            refine lv_iconst (v := 4) S.1 S.2.1 dX7_takesSeat_51 (by decide) ?_
            obtain ⟨r_24, hc_25, h⟩ := cl1_some h
            have hW := kw_same hW
            refine kV_i (As := [.int v2, .int (4 : Int32)]) (rest := [.int (σ 6 v5.toNatClampNeg)]) S hK hA (z := none) trivial [] [] hW (cMo_of l D cs a σ Λ v2 (4 : Int32) N hc_25) (ci := 6) rfl rfl lk_X7_135 q825 q26 ⟨Nat.le_of_ble_eq_true rfl, Nat.le_of_ble_eq_true rfl⟩ rfl (Nat.le_of_ble_eq_true rfl) hl.1 dX7_takesSeat_52 ⟨Nat.zero_le _, Nat.zero_le _⟩ (fun H locs hW => ?_)
            have hW : Wd D A s.heap (wMo cs a σ Λ) H locs := kw_back hW
            refine lv_iand S.1 S.2.1 dX7_takesSeat_55 ?_
            obtain ⟨r_26, hc_27, h⟩ := cl1_some h
            refine kS_i (As := [.int ((σ 6 v5.toNatClampNeg) &&& r_24)]) (rest := []) S hK hA (z := none) trivial [] (wMo cs a σ Λ) hW (cMo_bits l D cs ((σ 6 v5.toNatClampNeg) &&& r_24) N hc_27) lk_X7_142 q876 ⟨Nat.le_of_ble_eq_true rfl, Nat.le_of_ble_eq_true rfl⟩ rfl (Nat.le_of_ble_eq_true rfl) hl.1 dX7_takesSeat_56 ⟨Nat.zero_le _, Nat.zero_le _⟩ (fun H locs hW => ?_)
            have hW : Wd D A s.heap (wMo cs a σ Λ) H locs := hW
            refine lv_aload_n S.1 S.2.1 dX7_takesSeat_59 rfl (lv_at hl 0 rfl) ?_
            refine gMo_kind S hK hW dX7_takesSeat_60 ?_
            refine lv_iload S.1 S.2.1 dX7_takesSeat_63 (lv_at hl 4 rfl) ?_
            obtain ⟨hi_28, h⟩ := gI_some h
            refine lMo_kind S hK hW hi_28 dX7_takesSeat_65 ?_
            refine lv_aload_n S.1 S.2.1 dX7_takesSeat_66 rfl (lv_at hl 0 rfl) ?_
            refine lv_iload_n S.1 S.2.1 dX7_takesSeat_67 rfl (lv_at hl 2 rfl) ?_
            refine lv_iconst (v := 4) S.1 S.2.1 dX7_takesSeat_68 (by decide) ?_
            obtain ⟨r_29, hc_30, h⟩ := cl1_some h
            have hW := kw_same hW
            refine kV_i (As := [.int v2, .int (4 : Int32)]) (rest := [.int (σ 6 v4.toNatClampNeg), .int r_26]) S hK hA (z := none) trivial [] [] hW (cMo_of l D cs a σ Λ v2 (4 : Int32) N hc_30) (ci := 6) rfl rfl lk_X7_135 q825 q26 ⟨Nat.le_of_ble_eq_true rfl, Nat.le_of_ble_eq_true rfl⟩ rfl (Nat.le_of_ble_eq_true rfl) hl.1 dX7_takesSeat_69 ⟨Nat.zero_le _, Nat.zero_le _⟩ (fun H locs hW => ?_)
            have hW : Wd D A s.heap (wMo cs a σ Λ) H locs := kw_back hW
            refine lv_iand S.1 S.2.1 dX7_takesSeat_72 ?_
            obtain ⟨r_31, hc_32, h⟩ := cl1_some h
            refine kS_i (As := [.int ((σ 6 v4.toNatClampNeg) &&& r_29)]) (rest := [.int r_26]) S hK hA (z := none) trivial [] (wMo cs a σ Λ) hW (cMo_bits l D cs ((σ 6 v4.toNatClampNeg) &&& r_29) N hc_32) lk_X7_142 q876 ⟨Nat.le_of_ble_eq_true rfl, Nat.le_of_ble_eq_true rfl⟩ rfl (Nat.le_of_ble_eq_true rfl) hl.1 dX7_takesSeat_73 ⟨Nat.zero_le _, Nat.zero_le _⟩ (fun H locs hW => ?_)
            have hW : Wd D A s.heap (wMo cs a σ Λ) H locs := hW
            refine lv_icmp_le (tgt := 84) S.1 S.2.1 dX7_takesSeat_76 (by decide) (fun c_33 => ?_) (fun c_33 => ?_)
            · have h := ite_t c_33 h
              refine lv_iload S.1 S.2.1 dX7_takesSeat_84 (lv_at hl 4 rfl) ?_
              exact wMo_takesSeat_86 S hK hA hQ ih v1 v2 v3 v5 v4 _ _ _ h hW (lv_sub hl [0, 1, 2, 3, 5] rfl)
            · have h := ite_f c_33 h
              exact wMo_takesSeat_79 S hK hA hQ ih v1 v2 v3 v5 _ _ _ h hW (lv_sub hl [0, 1, 2, 3, 5] rfl)
set_option maxHeartbeats 4000000 in
set_option maxRecDepth 100000 in
theorem cMo_takesSeat (l : Launch) (D : va_G) (cs : Nat → ClassId) (a : Nat → Nat) (σ : St) (Λ : Nat → Int64) (p0 : Int32) (p1 : Int32) (p2 : Int32) (N : Nat) {r : Int32} (h : fMo_takesSeat N p0 p1 p2 σ = some r) : Ki l D cs none yX7_takesSeat cX7_takesSeat 7 (some .int) 1 22 (wMo cs a σ Λ) [.ref (a 0), .int p0, .int p1, .int p2] r (wMo cs a σ Λ) := by
  refine Ki_of (by decide +kernel) (Nat.le_of_ble_eq_true rfl) (fun p e s m below meth c A S hK hA hZ Q hQ ls hl hW => ?_)
  have hl : lv_has ls 7 [(0, .ref (a 0)), (1, .int p0), (2, .int p1), (3, .int p2)] := hl
  unfold fMo_takesSeat at h
  refine lv_iconst (v := -1) S.1 S.2.1 dX7_takesSeat_0 (by decide) ?_
  refine lv_istore (lv' := [(4, .int (-1 : Int32)), (0, .ref (a 0)), (1, .int p0), (2, .int p1), (3, .int p2)]) S.1 S.2.1 dX7_takesSeat_1 hl (by decide) rfl (fun ls hl => ?_)
  refine lv_iconst (v := 0) S.1 S.2.1 dX7_takesSeat_3 (by decide) ?_
  refine lv_istore (lv' := [(5, .int (0 : Int32)), (4, .int (-1 : Int32)), (0, .ref (a 0)), (1, .int p0), (2, .int p1), (3, .int p2)]) S.1 S.2.1 dX7_takesSeat_4 hl (by decide) rfl (fun ls hl => ?_)
  exact wMo_takesSeat_6 S hK hA hQ N p0 p1 p2 (-1 : Int32) (0 : Int32) _ _ _ h hW (lv_sub hl [2, 3, 4, 5, 1, 0] rfl)
set_option maxHeartbeats 4000000 in
set_option maxRecDepth 100000 in
theorem wMo_seeks_84 {p : Program} {l : Launch} {e : Env} {s : State} {m : MethodId} {args : Array Value} {below : List Frame} {meth : Method} {c : Code} {A : Nat → Prop} {Q : State → Prop} {D : va_G} {cs : Nat → ClassId} {a : Nat → Nat} {Λ : Nat → Int64} {σ' : St} {N : Nat} (S : Fx p m c cX7_seeks 5 s args RX7) (hK : va_K D vwCl (tyL cs) s) (hA : ∀ x, s.heap.size ≤ x → A x) (hQ : ∀ (H : Heap) (locs : List Loc) (pc : Nat) (ls : Array Slot), decode cX7_seeks pc = .ok (.return_, 1) → Wd D A s.heap (wMo cs a σ' Λ) H locs → W p l e { frames := 2, cells := 0, slots := 0, locals := 48 } s m args below meth c H locs 0 0 Q (F0 m pc ls [])) : ∀ (σ : St) (H : Heap) (locs : List Loc) (ls : Array Slot), fMo_seeks_84 N σ = some σ' → Wd D A s.heap (wMo cs a σ Λ) H locs → lv_has ls 5 [] → W p l e { frames := 2, cells := 0, slots := 0, locals := 48 } s m args below meth c H locs 0 0 Q (F0 m 84 ls []) := by
  intro σ H locs ls h hW hl
  unfold fMo_seeks_84 at h
  obtain rfl := pr1 h
  exact hQ _ _ _ _ dX7_seeks_84 hW
set_option maxHeartbeats 4000000 in
set_option maxRecDepth 100000 in
theorem cMo_seeks (l : Launch) (D : va_G) (cs : Nat → ClassId) (a : Nat → Nat) (σ : St) (Λ : Nat → Int64) (p0 : Int32) (p1 : Int32) (p2 : Int32) (N : Nat) {σ' : St} (h : fMo_seeks N p0 p1 p2 σ = some σ') : Kv l D cs none yX7_seeks cX7_seeks 5 none 2 48 (wMo cs a σ Λ) [.ref (a 0), .int p0, .int p1, .int p2] (wMo cs a σ' Λ) := by
  refine Kv_of (by decide +kernel) (Nat.le_of_ble_eq_true rfl) (fun p e s m below meth c A S hK hA hZ Q hQ ls hl hW => ?_)
  have hl : lv_has ls 5 [(0, .ref (a 0)), (1, .int p0), (2, .int p1), (3, .int p2)] := hl
  unfold fMo_seeks at h
  refine lv_aload_n S.1 S.2.1 dX7_seeks_0 rfl (lv_at hl 0 rfl) ?_
  refine lv_iload_n S.1 S.2.1 dX7_seeks_1 rfl (lv_at hl 1 rfl) ?_
  refine lv_iload_n S.1 S.2.1 dX7_seeks_2 rfl (lv_at hl 2 rfl) ?_
  refine lv_iload_n S.1 S.2.1 dX7_seeks_3 rfl (lv_at hl 3 rfl) ?_
  obtain ⟨r_1, hc_2, h⟩ := cl1_some h
  have hW := kw_same hW
  refine kV_i (As := [.int p0, .int p1, .int p2]) (rest := []) S hK hA (z := none) trivial [] [] hW (cMo_takesSeat l D cs a σ Λ p0 p1 p2 N hc_2) (ci := 6) rfl rfl lk_X7_145 q873 q33 ⟨Nat.le_of_ble_eq_true rfl, Nat.le_of_ble_eq_true rfl⟩ rfl (Nat.le_of_ble_eq_true rfl) hl.1 dX7_seeks_4 ⟨Nat.zero_le _, Nat.zero_le _⟩ (fun H locs hW => ?_)
  have hW : Wd D A s.heap (wMo cs a σ Λ) H locs := kw_back hW
  refine lv_istore (lv' := [(4, .int r_1), (0, .ref (a 0)), (1, .int p0), (2, .int p1), (3, .int p2)]) S.1 S.2.1 dX7_seeks_7 hl (by decide) rfl (fun ls hl => ?_)
  refine lv_iload S.1 S.2.1 dX7_seeks_9 (lv_at hl 0 rfl) ?_
  refine lv_if_lt (tgt := 48) S.1 S.2.1 dX7_seeks_11 (by decide) (fun c_3 => ?_) (fun c_3 => ?_)
  · have h := ite_t c_3 h
    refine lv_iload_n S.1 S.2.1 dX7_seeks_48 rfl (lv_at hl 4 rfl) ?_
    refine lv_aload_n S.1 S.2.1 dX7_seeks_49 rfl (lv_at hl 1 rfl) ?_
    refine gMo_since S hK hW dX7_seeks_50 ?_
    refine lv_iload_n S.1 S.2.1 dX7_seeks_53 rfl (lv_at hl 3 rfl) ?_
    obtain ⟨hi_4, h⟩ := gI_some h
    refine lMo_since S hK hW hi_4 dX7_seeks_54 ?_
    refine lv_isub S.1 S.2.1 dX7_seeks_55 ?_
    refine lv_aload_n S.1 S.2.1 dX7_seeks_56 rfl (lv_at hl 1 rfl) ?_
    refine gMo_told S hK hW dX7_seeks_57 ?_
    refine lv_iconst (v := 3) S.1 S.2.1 dX7_seeks_60 (by decide) ?_
    obtain ⟨hi_5, h⟩ := gI_some h
    refine lMo_told S hK hW hi_5 dX7_seeks_61 ?_
    refine lv_icmp_lt (tgt := 84) S.1 S.2.1 dX7_seeks_62 (by decide) (fun c_6 => ?_) (fun c_6 => ?_)
    · have h := ite_t c_6 h
      exact wMo_seeks_84 S hK hA hQ σ _ _ _ h hW (lv_sub hl [] rfl)
    · have h := ite_f c_6 h
      refine lv_aload_n S.1 S.2.1 dX7_seeks_65 rfl (lv_at hl 1 rfl) ?_
      refine gMo_does S hK hW dX7_seeks_66 ?_
      refine lv_iload_n S.1 S.2.1 dX7_seeks_69 rfl (lv_at hl 3 rfl) ?_
      refine lv_iconst (v := 4) S.1 S.2.1 dX7_seeks_70 (by decide) ?_
      obtain ⟨hi_7, h⟩ := gI_some h
      refine sMo_does S hK hW hi_7 dX7_seeks_71 (fun H locs σ_8 eσ_8 hW => ?_)
      have h := nm_to eσ_8 h
      refine lv_aload_n S.1 S.2.1 dX7_seeks_72 rfl (lv_at hl 1 rfl) ?_
      refine lv_dup S.1 S.2.1 dX7_seeks_73 rfl ?_
      refine gMo_shut S hK hW dX7_seeks_74 ?_
      refine lv_iconst (v := 1) S.1 S.2.1 dX7_seeks_77 (by decide) ?_
      refine lv_iload_n S.1 S.2.1 dX7_seeks_78 rfl (lv_at hl 3 rfl) ?_
      refine lv_ishl S.1 S.2.1 dX7_seeks_79 ?_
      refine lv_ior S.1 S.2.1 dX7_seeks_80 ?_
      refine pMo_shut S hK hW dX7_seeks_81 (fun H locs σ_9 eσ_9 hW => ?_)
      have h := nm_to eσ_9 h
      exact wMo_seeks_84 S hK hA hQ σ_9 _ _ _ h hW (lv_sub hl [] rfl)
  · have h := ite_f c_3 h
    refine lv_aload_n S.1 S.2.1 dX7_seeks_14 rfl (lv_at hl 1 rfl) ?_
    refine gMo_holds S hK hW dX7_seeks_15 ?_
    refine lv_iload S.1 S.2.1 dX7_seeks_18 (lv_at hl 0 rfl) ?_
    refine lv_iconst (v := -1) S.1 S.2.1 dX7_seeks_20 (by decide) ?_
    obtain ⟨hi_10, h⟩ := gI_some h
    refine sMo_holds S hK hW hi_10 dX7_seeks_21 (fun H locs σ_11 eσ_11 hW => ?_)
    have h := nm_to eσ_11 h
    refine lv_aload_n S.1 S.2.1 dX7_seeks_22 rfl (lv_at hl 1 rfl) ?_
    refine gMo_sits S hK hW dX7_seeks_23 ?_
    refine lv_iload S.1 S.2.1 dX7_seeks_26 (lv_at hl 0 rfl) ?_
    refine lv_iload_n S.1 S.2.1 dX7_seeks_28 rfl (lv_at hl 3 rfl) ?_
    obtain ⟨hi_12, h⟩ := gI_some h
    refine sMo_sits S hK hW hi_12 dX7_seeks_29 (fun H locs σ_13 eσ_13 hW => ?_)
    have h := nm_to eσ_13 h
    refine lv_aload_n S.1 S.2.1 dX7_seeks_30 rfl (lv_at hl 1 rfl) ?_
    refine gMo_place S hK hW dX7_seeks_31 ?_
    refine lv_iload_n S.1 S.2.1 dX7_seeks_34 rfl (lv_at hl 3 rfl) ?_
    refine lv_iload S.1 S.2.1 dX7_seeks_35 (lv_at hl 0 rfl) ?_
    obtain ⟨hi_14, h⟩ := gI_some h
    refine sMo_place S hK hW hi_14 dX7_seeks_37 (fun H locs σ_15 eσ_15 hW => ?_)
    have h := nm_to eσ_15 h
    refine lv_aload_n S.1 S.2.1 dX7_seeks_38 rfl (lv_at hl 1 rfl) ?_
    refine gMo_does S hK hW dX7_seeks_39 ?_
    refine lv_iload_n S.1 S.2.1 dX7_seeks_42 rfl (lv_at hl 3 rfl) ?_
    refine lv_iconst (v := 2) S.1 S.2.1 dX7_seeks_43 (by decide) ?_
    obtain ⟨hi_16, h⟩ := gI_some h
    refine sMo_does S hK hW hi_16 dX7_seeks_44 (fun H locs σ_17 eσ_17 hW => ?_)
    have h := nm_to eσ_17 h
    refine lv_goto (tgt := 84) S.1 S.2.1 dX7_seeks_45 (by decide) ?_
    exact wMo_seeks_84 S hK hA hQ σ_17 _ _ _ h hW (lv_sub hl [] rfl)
set_option maxHeartbeats 4000000 in
set_option maxRecDepth 100000 in
theorem wMo_sitsOn_135 {p : Program} {l : Launch} {e : Env} {s : State} {m : MethodId} {args : Array Value} {below : List Frame} {meth : Method} {c : Code} {A : Nat → Prop} {Q : State → Prop} {D : va_G} {cs : Nat → ClassId} {a : Nat → Nat} {Λ : Nat → Int64} {σ' : St} {N : Nat} (S : Fx p m c cX7_sitsOn 6 s args RX7) (hK : va_K D vwCl (tyL cs) s) (hA : ∀ x, s.heap.size ≤ x → A x) (hQ : ∀ (H : Heap) (locs : List Loc) (pc : Nat) (ls : Array Slot), decode cX7_sitsOn pc = .ok (.return_, 1) → Wd D A s.heap (wMo cs a σ' Λ) H locs → W p l e { frames := 1, cells := 0, slots := 0, locals := 22 } s m args below meth c H locs 0 0 Q (F0 m pc ls [])) : ∀ (σ : St) (H : Heap) (locs : List Loc) (ls : Array Slot), fMo_sitsOn_135 N σ = some σ' → Wd D A s.heap (wMo cs a σ Λ) H locs → lv_has ls 6 [] → W p l e { frames := 1, cells := 0, slots := 0, locals := 22 } s m args below meth c H locs 0 0 Q (F0 m 135 ls []) := by
  intro σ H locs ls h hW hl
  unfold fMo_sitsOn_135 at h
  obtain rfl := pr1 h
  exact hQ _ _ _ _ dX7_sitsOn_135 hW
set_option maxHeartbeats 4000000 in
set_option maxRecDepth 100000 in
theorem wMo_sitsOn_134 {p : Program} {l : Launch} {e : Env} {s : State} {m : MethodId} {args : Array Value} {below : List Frame} {meth : Method} {c : Code} {A : Nat → Prop} {Q : State → Prop} {D : va_G} {cs : Nat → ClassId} {a : Nat → Nat} {Λ : Nat → Int64} {σ' : St} {N : Nat} (S : Fx p m c cX7_sitsOn 6 s args RX7) (hK : va_K D vwCl (tyL cs) s) (hA : ∀ x, s.heap.size ≤ x → A x) (hQ : ∀ (H : Heap) (locs : List Loc) (pc : Nat) (ls : Array Slot), decode cX7_sitsOn pc = .ok (.return_, 1) → Wd D A s.heap (wMo cs a σ' Λ) H locs → W p l e { frames := 1, cells := 0, slots := 0, locals := 22 } s m args below meth c H locs 0 0 Q (F0 m pc ls [])) : ∀ (k1 : Int32) (k2 : Int32) (σ : St) (H : Heap) (locs : List Loc) (ls : Array Slot), fMo_sitsOn_134 N k1 k2 σ = some σ' → Wd D A s.heap (wMo cs a σ Λ) H locs → lv_has ls 6 [] → W p l e { frames := 1, cells := 0, slots := 0, locals := 22 } s m args below meth c H locs 0 0 Q (F0 m 134 ls [.int k2, .int k1, .ref (a 20)]) := by
  intro k1 k2 σ H locs ls h hW hl
  unfold fMo_sitsOn_134 at h
  obtain ⟨hi_1, h⟩ := gI_some h
  refine sMo_holds S hK hW hi_1 dX7_sitsOn_134 (fun H locs σ_2 eσ_2 hW => ?_)
  have h := nm_to eσ_2 h
  exact wMo_sitsOn_135 S hK hA hQ σ_2 _ _ _ h hW (lv_sub hl [] rfl)
set_option maxHeartbeats 4000000 in
set_option maxRecDepth 100000 in
theorem wMo_sitsOn_113 {p : Program} {l : Launch} {e : Env} {s : State} {m : MethodId} {args : Array Value} {below : List Frame} {meth : Method} {c : Code} {A : Nat → Prop} {Q : State → Prop} {D : va_G} {cs : Nat → ClassId} {a : Nat → Nat} {Λ : Nat → Int64} {σ' : St} {N : Nat} (S : Fx p m c cX7_sitsOn 6 s args RX7) (hK : va_K D vwCl (tyL cs) s) (hA : ∀ x, s.heap.size ≤ x → A x) (hQ : ∀ (H : Heap) (locs : List Loc) (pc : Nat) (ls : Array Slot), decode cX7_sitsOn pc = .ok (.return_, 1) → Wd D A s.heap (wMo cs a σ' Λ) H locs → W p l e { frames := 1, cells := 0, slots := 0, locals := 22 } s m args below meth c H locs 0 0 Q (F0 m pc ls [])) : ∀ (v3 : Int32) (v5 : Int32) (k1 : Int32) (k2 : Int32) (σ : St) (H : Heap) (locs : List Loc) (ls : Array Slot), fMo_sitsOn_113 N v3 v5 k1 k2 σ = some σ' → Wd D A s.heap (wMo cs a σ Λ) H locs → lv_has ls 6 [(0, .ref (a 0)), (3, .int v3), (5, .int v5)] → W p l e { frames := 1, cells := 0, slots := 0, locals := 22 } s m args below meth c H locs 0 0 Q (F0 m 113 ls [.int k2, .int k1, .ref (a 17)]) := by
  intro v3 v5 k1 k2 σ H locs ls h hW hl
  unfold fMo_sitsOn_113 at h
  obtain ⟨hi_3, h⟩ := gI_some h
  refine sMo_held S hK hW hi_3 dX7_sitsOn_113 (fun H locs σ_4 eσ_4 hW => ?_)
  have h := nm_to eσ_4 h
  refine lv_aload_n S.1 S.2.1 dX7_sitsOn_114 rfl (lv_at hl 0 rfl) ?_
  refine gMo_holds S hK hW dX7_sitsOn_115 ?_
  refine lv_iload S.1 S.2.1 dX7_sitsOn_118 (lv_at hl 2 rfl) ?_
  refine lv_aload_n S.1 S.2.1 dX7_sitsOn_120 rfl (lv_at hl 0 rfl) ?_
  refine gMo_held S hK hW dX7_sitsOn_121 ?_
  refine lv_iload_n S.1 S.2.1 dX7_sitsOn_124 rfl (lv_at hl 1 rfl) ?_
  obtain ⟨hi_5, h⟩ := gI_some h
  refine lMo_held S hK hW hi_5 dX7_sitsOn_125 ?_
  refine lv_if_eq (tgt := 133) S.1 S.2.1 dX7_sitsOn_126 (by decide) (fun c_6 => ?_) (fun c_6 => ?_)
  · have h := ite_t c_6 h
    refine lv_iconst (v := -1) S.1 S.2.1 dX7_sitsOn_133 (by decide) ?_
    exact wMo_sitsOn_134 S hK hA hQ v5 (-1 : Int32) σ_4 _ _ _ h hW (lv_sub hl [] rfl)
  · have h := ite_f c_6 h
    refine lv_iload_n S.1 S.2.1 dX7_sitsOn_129 rfl (lv_at hl 1 rfl) ?_
    refine lv_goto (tgt := 134) S.1 S.2.1 dX7_sitsOn_130 (by decide) ?_
    exact wMo_sitsOn_134 S hK hA hQ v5 v3 σ_4 _ _ _ h hW (lv_sub hl [] rfl)
set_option maxHeartbeats 4000000 in
set_option maxRecDepth 100000 in
theorem wMo_sitsOn_112 {p : Program} {l : Launch} {e : Env} {s : State} {m : MethodId} {args : Array Value} {below : List Frame} {meth : Method} {c : Code} {A : Nat → Prop} {Q : State → Prop} {D : va_G} {cs : Nat → ClassId} {a : Nat → Nat} {Λ : Nat → Int64} {σ' : St} {N : Nat} (S : Fx p m c cX7_sitsOn 6 s args RX7) (hK : va_K D vwCl (tyL cs) s) (hA : ∀ x, s.heap.size ≤ x → A x) (hQ : ∀ (H : Heap) (locs : List Loc) (pc : Nat) (ls : Array Slot), decode cX7_sitsOn pc = .ok (.return_, 1) → Wd D A s.heap (wMo cs a σ' Λ) H locs → W p l e { frames := 1, cells := 0, slots := 0, locals := 22 } s m args below meth c H locs 0 0 Q (F0 m pc ls [])) : ∀ (v3 : Int32) (v5 : Int32) (k1 : Int32) (σ : St) (H : Heap) (locs : List Loc) (ls : Array Slot), fMo_sitsOn_112 N v3 v5 k1 σ = some σ' → Wd D A s.heap (wMo cs a σ Λ) H locs → lv_has ls 6 [(0, .ref (a 0)), (3, .int v3), (5, .int v5)] → W p l e { frames := 1, cells := 0, slots := 0, locals := 22 } s m args below meth c H locs 0 0 Q (F0 m 112 ls [.int k1, .ref (a 17)]) := by
  intro v3 v5 k1 σ H locs ls h hW hl
  unfold fMo_sitsOn_112 at h
  refine lv_iconst (v := 0) S.1 S.2.1 dX7_sitsOn_112 (by decide) ?_
  exact wMo_sitsOn_113 S hK hA hQ v3 v5 k1 (0 : Int32) σ _ _ _ h hW (lv_sub hl [0, 1, 2] rfl)
set_option maxHeartbeats 4000000 in
set_option maxRecDepth 100000 in
theorem cMo_sitsOn (l : Launch) (D : va_G) (cs : Nat → ClassId) (a : Nat → Nat) (σ : St) (Λ : Nat → Int64) (p0 : Int32) (p1 : Int32) (p2 : Int32) (p3 : Int32) (N : Nat) {σ' : St} (h : fMo_sitsOn N p0 p1 p2 p3 σ = some σ') : Kv l D cs none yX7_sitsOn cX7_sitsOn 6 none 1 22 (wMo cs a σ Λ) [.ref (a 0), .int p0, .int p1, .int p2, .int p3] (wMo cs a σ' Λ) := by
  refine Kv_of (by decide +kernel) (Nat.le_of_ble_eq_true rfl) (fun p e s m below meth c A S hK hA hZ Q hQ ls hl hW => ?_)
  have hl : lv_has ls 6 [(0, .ref (a 0)), (1, .int p0), (2, .int p1), (3, .int p2), (4, .int p3)] := hl
  unfold fMo_sitsOn at h
  refine lv_aload_n S.1 S.2.1 dX7_sitsOn_0 rfl (lv_at hl 0 rfl) ?_
  refine gMo_place S hK hW dX7_sitsOn_1 ?_
  refine lv_iload_n S.1 S.2.1 dX7_sitsOn_4 rfl (lv_at hl 3 rfl) ?_
  obtain ⟨hi_7, h⟩ := gI_some h
  refine lMo_place S hK hW hi_7 dX7_sitsOn_5 ?_
  refine lv_topi (fun x5_8 ex5_8 => ?_)
  have h := nm_to ex5_8 h
  refine lv_istore (lv' := [(5, .int x5_8), (0, .ref (a 0)), (1, .int p0), (2, .int p1), (3, .int p2), (4, .int p3)]) S.1 S.2.1 dX7_sitsOn_6 hl (by decide) rfl (fun ls hl => ?_)
  refine lv_aload_n S.1 S.2.1 dX7_sitsOn_8 rfl (lv_at hl 1 rfl) ?_
  refine gMo_sat S hK hW dX7_sitsOn_9 ?_
  refine lv_iload_n S.1 S.2.1 dX7_sitsOn_12 rfl (lv_at hl 4 rfl) ?_
  refine lv_dup2_11 S.1 S.2.1 dX7_sitsOn_13 rfl rfl ?_
  obtain ⟨hi_9, h⟩ := gI_some h
  refine lMo_sat S hK hW hi_9 dX7_sitsOn_14 ?_
  refine lv_iconst (v := 1) S.1 S.2.1 dX7_sitsOn_15 (by decide) ?_
  refine lv_iadd S.1 S.2.1 dX7_sitsOn_16 ?_
  obtain ⟨hi_10, h⟩ := gI_some h
  refine sMo_sat S hK hW hi_10 dX7_sitsOn_17 (fun H locs σ_11 eσ_11 hW => ?_)
  have h := nm_to eσ_11 h
  refine lv_aload_n S.1 S.2.1 dX7_sitsOn_18 rfl (lv_at hl 1 rfl) ?_
  refine gMo_sat S hK hW dX7_sitsOn_19 ?_
  refine lv_iload_n S.1 S.2.1 dX7_sitsOn_22 rfl (lv_at hl 4 rfl) ?_
  obtain ⟨hi_12, h⟩ := gI_some h
  refine lMo_sat S hK hW hi_12 dX7_sitsOn_23 ?_
  refine lv_aload_n S.1 S.2.1 dX7_sitsOn_24 rfl (lv_at hl 1 rfl) ?_
  refine lv_iload_n S.1 S.2.1 dX7_sitsOn_25 rfl (lv_at hl 4 rfl) ?_
  refine lv_iconst (v := 1) S.1 S.2.1 dX7_sitsOn_26 (by decide) ?_
  obtain ⟨r_13, hc_14, h⟩ := cl1_some h
  have hW := kw_same hW
  refine kV_i (As := [.int p2, .int (1 : Int32)]) (rest := [.int (σ_11 14 p2.toNatClampNeg)]) S hK hA (z := none) trivial [] [] hW (cMo_of l D cs a σ_11 Λ p2 (1 : Int32) N hc_14) (ci := 6) rfl rfl lk_X7_135 q825 q26 ⟨Nat.le_of_ble_eq_true rfl, Nat.le_of_ble_eq_true rfl⟩ rfl (Nat.le_of_ble_eq_true rfl) hl.1 dX7_sitsOn_27 ⟨Nat.zero_le _, Nat.zero_le _⟩ (fun H locs hW => ?_)
  have hW : Wd D A s.heap (wMo cs a σ_11 Λ) H locs := kw_back hW
  refine lv_icmp_ne (tgt := 51) S.1 S.2.1 dX7_sitsOn_30 (by decide) (fun c_15 => ?_) (fun c_15 => ?_)
  · have h := ite_f c_15 h
    refine lv_aload_n S.1 S.2.1 dX7_sitsOn_51 rfl (lv_at hl 1 rfl) ?_
    refine gMo_sat S hK hW dX7_sitsOn_52 ?_
    refine lv_iload_n S.1 S.2.1 dX7_sitsOn_55 rfl (lv_at hl 4 rfl) ?_
    obtain ⟨hi_16, h⟩ := gI_some h
    refine lMo_sat S hK hW hi_16 dX7_sitsOn_56 ?_
    refine lv_aload_n S.1 S.2.1 dX7_sitsOn_57 rfl (lv_at hl 1 rfl) ?_
    refine lv_iload_n S.1 S.2.1 dX7_sitsOn_58 rfl (lv_at hl 4 rfl) ?_
    refine lv_iconst (v := 2) S.1 S.2.1 dX7_sitsOn_59 (by decide) ?_
    obtain ⟨r_17, hc_18, h⟩ := cl1_some h
    have hW := kw_same hW
    refine kV_i (As := [.int p2, .int (2 : Int32)]) (rest := [.int (σ_11 14 p2.toNatClampNeg)]) S hK hA (z := none) trivial [] [] hW (cMo_of l D cs a σ_11 Λ p2 (2 : Int32) N hc_18) (ci := 6) rfl rfl lk_X7_135 q825 q26 ⟨Nat.le_of_ble_eq_true rfl, Nat.le_of_ble_eq_true rfl⟩ rfl (Nat.le_of_ble_eq_true rfl) hl.1 dX7_sitsOn_60 ⟨Nat.zero_le _, Nat.zero_le _⟩ (fun H locs hW => ?_)
    have hW : Wd D A s.heap (wMo cs a σ_11 Λ) H locs := kw_back hW
    refine lv_icmp_ne (tgt := 135) S.1 S.2.1 dX7_sitsOn_63 (by decide) (fun c_19 => ?_) (fun c_19 => ?_)
    · have h := ite_f c_19 h
      exact wMo_sitsOn_135 S hK hA hQ σ_11 _ _ _ h hW (lv_sub hl [] rfl)
    · have h := ite_t c_19 h
      refine lv_aload_n S.1 S.2.1 dX7_sitsOn_66 rfl (lv_at hl 1 rfl) ?_
      refine gMo_does S hK hW dX7_sitsOn_67 ?_
      refine lv_iload_n S.1 S.2.1 dX7_sitsOn_70 rfl (lv_at hl 4 rfl) ?_
      refine lv_iconst (v := 3) S.1 S.2.1 dX7_sitsOn_71 (by decide) ?_
      obtain ⟨hi_20, h⟩ := gI_some h
      refine sMo_does S hK hW hi_20 dX7_sitsOn_72 (fun H locs σ_21 eσ_21 hW => ?_)
      have h := nm_to eσ_21 h
      refine lv_aload_n S.1 S.2.1 dX7_sitsOn_73 rfl (lv_at hl 1 rfl) ?_
      refine gMo_went S hK hW dX7_sitsOn_74 ?_
      refine lv_iload_n S.1 S.2.1 dX7_sitsOn_77 rfl (lv_at hl 4 rfl) ?_
      refine lv_iload S.1 S.2.1 dX7_sitsOn_78 (lv_at hl 5 rfl) ?_
      obtain ⟨hi_22, h⟩ := gI_some h
      refine sMo_went S hK hW hi_22 dX7_sitsOn_80 (fun H locs σ_23 eσ_23 hW => ?_)
      have h := nm_to eσ_23 h
      refine lv_aload_n S.1 S.2.1 dX7_sitsOn_81 rfl (lv_at hl 1 rfl) ?_
      refine gMo_sits S hK hW dX7_sitsOn_82 ?_
      refine lv_iload S.1 S.2.1 dX7_sitsOn_85 (lv_at hl 0 rfl) ?_
      refine lv_iconst (v := -1) S.1 S.2.1 dX7_sitsOn_87 (by decide) ?_
      obtain ⟨hi_24, h⟩ := gI_some h
      refine sMo_sits S hK hW hi_24 dX7_sitsOn_88 (fun H locs σ_25 eσ_25 hW => ?_)
      have h := nm_to eσ_25 h
      refine lv_aload_n S.1 S.2.1 dX7_sitsOn_89 rfl (lv_at hl 1 rfl) ?_
      refine gMo_held S hK hW dX7_sitsOn_90 ?_
      refine lv_iload_n S.1 S.2.1 dX7_sitsOn_93 rfl (lv_at hl 4 rfl) ?_
      refine lv_iload_n S.1 S.2.1 dX7_sitsOn_94 rfl (lv_at hl 2 rfl) ?_
      refine lv_iconst (v := 1) S.1 S.2.1 dX7_sitsOn_95 (by decide) ?_
      refine lv_icmp_eq (tgt := 112) S.1 S.2.1 dX7_sitsOn_96 (by decide) (fun c_26 => ?_) (fun c_26 => ?_)
      · have h := ite_t c_26 h
        exact wMo_sitsOn_112 S hK hA hQ p2 x5_8 p2 σ_25 _ _ _ h hW (lv_sub hl [1, 4, 0] rfl)
      · have h := ite_f c_26 h
        refine lv_iload_n S.1 S.2.1 dX7_sitsOn_99 rfl (lv_at hl 3 rfl) ?_
        refine lv_iload_n S.1 S.2.1 dX7_sitsOn_100 rfl (lv_at hl 4 rfl) ?_
        refine lv_ishr S.1 S.2.1 dX7_sitsOn_101 ?_
        refine lv_iconst (v := 1) S.1 S.2.1 dX7_sitsOn_102 (by decide) ?_
        refine lv_iand S.1 S.2.1 dX7_sitsOn_103 ?_
        refine lv_iconst (v := 1) S.1 S.2.1 dX7_sitsOn_104 (by decide) ?_
        refine lv_icmp_ne (tgt := 112) S.1 S.2.1 dX7_sitsOn_105 (by decide) (fun c_27 => ?_) (fun c_27 => ?_)
        · have h := ite_f c_27 h
          exact wMo_sitsOn_112 S hK hA hQ p2 x5_8 p2 σ_25 _ _ _ h hW (lv_sub hl [1, 4, 0] rfl)
        · have h := ite_t c_27 h
          refine lv_iconst (v := 1) S.1 S.2.1 dX7_sitsOn_108 (by decide) ?_
          refine lv_goto (tgt := 113) S.1 S.2.1 dX7_sitsOn_109 (by decide) ?_
          exact wMo_sitsOn_113 S hK hA hQ p2 x5_8 p2 (1 : Int32) σ_25 _ _ _ h hW (lv_sub hl [1, 4, 0] rfl)
  · have h := ite_t c_15 h
    refine lv_aload_n S.1 S.2.1 dX7_sitsOn_33 rfl (lv_at hl 1 rfl) ?_
    refine gMo_does S hK hW dX7_sitsOn_34 ?_
    refine lv_iload_n S.1 S.2.1 dX7_sitsOn_37 rfl (lv_at hl 4 rfl) ?_
    refine lv_iconst (v := 4) S.1 S.2.1 dX7_sitsOn_38 (by decide) ?_
    obtain ⟨hi_28, h⟩ := gI_some h
    refine sMo_does S hK hW hi_28 dX7_sitsOn_39 (fun H locs σ_29 eσ_29 hW => ?_)
    have h := nm_to eσ_29 h
    refine lv_aload_n S.1 S.2.1 dX7_sitsOn_40 rfl (lv_at hl 1 rfl) ?_
    refine gMo_sits S hK hW dX7_sitsOn_41 ?_
    refine lv_iload S.1 S.2.1 dX7_sitsOn_44 (lv_at hl 0 rfl) ?_
    refine lv_iconst (v := -1) S.1 S.2.1 dX7_sitsOn_46 (by decide) ?_
    obtain ⟨hi_30, h⟩ := gI_some h
    refine sMo_sits S hK hW hi_30 dX7_sitsOn_47 (fun H locs σ_31 eσ_31 hW => ?_)
    have h := nm_to eσ_31 h
    refine lv_goto (tgt := 135) S.1 S.2.1 dX7_sitsOn_48 (by decide) ?_
    exact wMo_sitsOn_135 S hK hA hQ σ_31 _ _ _ h hW (lv_sub hl [] rfl)
set_option maxHeartbeats 4000000 in
set_option maxRecDepth 100000 in
theorem wMo_minute_51 {p : Program} {l : Launch} {e : Env} {s : State} {m : MethodId} {args : Array Value} {below : List Frame} {meth : Method} {c : Code} {A : Nat → Prop} {Q : State → Prop} {D : va_G} {cs : Nat → ClassId} {a : Nat → Nat} {Λ : Nat → Int64} {σ' : St} {N : Nat} (S : Fx p m c cX7_minute 8 s args RX7) (hK : va_K D vwCl (tyL cs) s) (hA : ∀ x, s.heap.size ≤ x → A x) (hQ : ∀ (H : Heap) (locs : List Loc) (pc : Nat) (ls : Array Slot), decode cX7_minute pc = .ok (.return_, 1) → Wd D A s.heap (wMo cs a σ' Λ) H locs → W p l e { frames := 3, cells := 0, slots := 0, locals := 72 } s m args below meth c H locs 0 0 Q (F0 m pc ls [])) {k_3 : Int32 → Int32 → Int32 → Int32 → Int32 → Int32 → St → Option (St)} (hk_3 : ∀ (v1 : Int32) (v2 : Int32) (v3 : Int32) (v4 : Int32) (v5 : Int32) (v6 : Int32) (σ : St) (H : Heap) (locs : List Loc) (ls : Array Slot), k_3 v1 v2 v3 v4 v5 v6 σ = some σ' → Wd D A s.heap (wMo cs a σ Λ) H locs → lv_has ls 8 [(0, .ref (a 0)), (1, .int v1), (2, .int v2), (3, .int v3), (4, .int v4), (5, .int v5), (6, .int v6)] → W p l e { frames := 3, cells := 0, slots := 0, locals := 72 } s m args below meth c H locs 0 0 Q (F0 m 3 ls [])) : ∀ (v1 : Int32) (v2 : Int32) (v3 : Int32) (v4 : Int32) (v5 : Int32) (v6 : Int32) (σ : St) (H : Heap) (locs : List Loc) (ls : Array Slot), fMo_minute_51 k_3 N v1 v2 v3 v4 v5 v6 σ = some σ' → Wd D A s.heap (wMo cs a σ Λ) H locs → lv_has ls 8 [(0, .ref (a 0)), (1, .int v1), (2, .int v2), (3, .int v3), (4, .int v4), (5, .int v5), (6, .int v6)] → W p l e { frames := 3, cells := 0, slots := 0, locals := 72 } s m args below meth c H locs 0 0 Q (F0 m 51 ls []) := by
  intro v1 v2 v3 v4 v5 v6 σ H locs ls h hW hl
  unfold fMo_minute_51 at h
  obtain ⟨x6_1, ex6_1, h⟩ := nm_some h
  refine lv_iinc (v := x6_1) (lv' := [(6, .int x6_1), (0, .ref (a 0)), (1, .int v1), (2, .int v2), (3, .int v3), (4, .int v4), (5, .int v5)]) S.1 S.2.1 dX7_minute_51 hl (k := 6) rfl (by rw [ex6_1]; rfl) (by decide) rfl (fun ls hl => ?_)
  refine lv_goto (tgt := 3) S.1 S.2.1 dX7_minute_54 (by decide) ?_
  exact hk_3 v1 v2 v3 v4 v5 x6_1 σ _ _ _ h hW (lv_sub hl [1, 2, 3, 4, 5, 6, 0] rfl)
set_option maxHeartbeats 4000000 in
set_option maxRecDepth 100000 in
theorem wMo_minute_126 {p : Program} {l : Launch} {e : Env} {s : State} {m : MethodId} {args : Array Value} {below : List Frame} {meth : Method} {c : Code} {A : Nat → Prop} {Q : State → Prop} {D : va_G} {cs : Nat → ClassId} {a : Nat → Nat} {Λ : Nat → Int64} {σ' : St} {N : Nat} (S : Fx p m c cX7_minute 8 s args RX7) (hK : va_K D vwCl (tyL cs) s) (hA : ∀ x, s.heap.size ≤ x → A x) (hQ : ∀ (H : Heap) (locs : List Loc) (pc : Nat) (ls : Array Slot), decode cX7_minute pc = .ok (.return_, 1) → Wd D A s.heap (wMo cs a σ' Λ) H locs → W p l e { frames := 3, cells := 0, slots := 0, locals := 72 } s m args below meth c H locs 0 0 Q (F0 m pc ls [])) {k_70 : Int32 → Int32 → Int32 → Int32 → St → Option (St)} (hk_70 : ∀ (v1 : Int32) (v2 : Int32) (v3 : Int32) (v6 : Int32) (σ : St) (H : Heap) (locs : List Loc) (ls : Array Slot), k_70 v1 v2 v3 v6 σ = some σ' → Wd D A s.heap (wMo cs a σ Λ) H locs → lv_has ls 8 [(0, .ref (a 0)), (1, .int v1), (2, .int v2), (3, .int v3), (6, .int v6)] → W p l e { frames := 3, cells := 0, slots := 0, locals := 72 } s m args below meth c H locs 0 0 Q (F0 m 70 ls [])) : ∀ (v1 : Int32) (v2 : Int32) (v3 : Int32) (v6 : Int32) (σ : St) (H : Heap) (locs : List Loc) (ls : Array Slot), fMo_minute_126 k_70 N v1 v2 v3 v6 σ = some σ' → Wd D A s.heap (wMo cs a σ Λ) H locs → lv_has ls 8 [(0, .ref (a 0)), (1, .int v1), (2, .int v2), (3, .int v3), (6, .int v6)] → W p l e { frames := 3, cells := 0, slots := 0, locals := 72 } s m args below meth c H locs 0 0 Q (F0 m 126 ls []) := by
  intro v1 v2 v3 v6 σ H locs ls h hW hl
  unfold fMo_minute_126 at h
  obtain ⟨x6_2, ex6_2, h⟩ := nm_some h
  refine lv_iinc (v := x6_2) (lv' := [(6, .int x6_2), (0, .ref (a 0)), (1, .int v1), (2, .int v2), (3, .int v3)]) S.1 S.2.1 dX7_minute_126 hl (k := 4) rfl (by rw [ex6_2]; rfl) (by decide) rfl (fun ls hl => ?_)
  refine lv_goto (tgt := 70) S.1 S.2.1 dX7_minute_129 (by decide) ?_
  exact hk_70 v1 v2 v3 x6_2 σ _ _ _ h hW (lv_sub hl [1, 2, 3, 4, 0] rfl)
set_option maxHeartbeats 4000000 in
set_option maxRecDepth 100000 in
theorem wMo_minute_165 {p : Program} {l : Launch} {e : Env} {s : State} {m : MethodId} {args : Array Value} {below : List Frame} {meth : Method} {c : Code} {A : Nat → Prop} {Q : State → Prop} {D : va_G} {cs : Nat → ClassId} {a : Nat → Nat} {Λ : Nat → Int64} {σ' : St} {N : Nat} (S : Fx p m c cX7_minute 8 s args RX7) (hK : va_K D vwCl (tyL cs) s) (hA : ∀ x, s.heap.size ≤ x → A x) (hQ : ∀ (H : Heap) (locs : List Loc) (pc : Nat) (ls : Array Slot), decode cX7_minute pc = .ok (.return_, 1) → Wd D A s.heap (wMo cs a σ' Λ) H locs → W p l e { frames := 3, cells := 0, slots := 0, locals := 72 } s m args below meth c H locs 0 0 Q (F0 m pc ls [])) {k_135 : Int32 → Int32 → Int32 → Int32 → St → Option (St)} (hk_135 : ∀ (v1 : Int32) (v2 : Int32) (v3 : Int32) (v6 : Int32) (σ : St) (H : Heap) (locs : List Loc) (ls : Array Slot), k_135 v1 v2 v3 v6 σ = some σ' → Wd D A s.heap (wMo cs a σ Λ) H locs → lv_has ls 8 [(0, .ref (a 0)), (1, .int v1), (2, .int v2), (3, .int v3), (6, .int v6)] → W p l e { frames := 3, cells := 0, slots := 0, locals := 72 } s m args below meth c H locs 0 0 Q (F0 m 135 ls [])) : ∀ (v1 : Int32) (v2 : Int32) (v3 : Int32) (v6 : Int32) (σ : St) (H : Heap) (locs : List Loc) (ls : Array Slot), fMo_minute_165 k_135 N v1 v2 v3 v6 σ = some σ' → Wd D A s.heap (wMo cs a σ Λ) H locs → lv_has ls 8 [(0, .ref (a 0)), (1, .int v1), (2, .int v2), (3, .int v3), (6, .int v6)] → W p l e { frames := 3, cells := 0, slots := 0, locals := 72 } s m args below meth c H locs 0 0 Q (F0 m 165 ls []) := by
  intro v1 v2 v3 v6 σ H locs ls h hW hl
  unfold fMo_minute_165 at h
  obtain ⟨x6_3, ex6_3, h⟩ := nm_some h
  refine lv_iinc (v := x6_3) (lv' := [(6, .int x6_3), (0, .ref (a 0)), (1, .int v1), (2, .int v2), (3, .int v3)]) S.1 S.2.1 dX7_minute_165 hl (k := 4) rfl (by rw [ex6_3]; rfl) (by decide) rfl (fun ls hl => ?_)
  refine lv_goto (tgt := 135) S.1 S.2.1 dX7_minute_168 (by decide) ?_
  exact hk_135 v1 v2 v3 x6_3 σ _ _ _ h hW (lv_sub hl [1, 2, 3, 4, 0] rfl)
set_option maxHeartbeats 4000000 in
set_option maxRecDepth 100000 in
theorem wMo_minute_205 {p : Program} {l : Launch} {e : Env} {s : State} {m : MethodId} {args : Array Value} {below : List Frame} {meth : Method} {c : Code} {A : Nat → Prop} {Q : State → Prop} {D : va_G} {cs : Nat → ClassId} {a : Nat → Nat} {Λ : Nat → Int64} {σ' : St} {N : Nat} (S : Fx p m c cX7_minute 8 s args RX7) (hK : va_K D vwCl (tyL cs) s) (hA : ∀ x, s.heap.size ≤ x → A x) (hQ : ∀ (H : Heap) (locs : List Loc) (pc : Nat) (ls : Array Slot), decode cX7_minute pc = .ok (.return_, 1) → Wd D A s.heap (wMo cs a σ' Λ) H locs → W p l e { frames := 3, cells := 0, slots := 0, locals := 72 } s m args below meth c H locs 0 0 Q (F0 m pc ls [])) {k_174 : Int32 → Int32 → Int32 → Int32 → St → Option (St)} (hk_174 : ∀ (v1 : Int32) (v2 : Int32) (v3 : Int32) (v6 : Int32) (σ : St) (H : Heap) (locs : List Loc) (ls : Array Slot), k_174 v1 v2 v3 v6 σ = some σ' → Wd D A s.heap (wMo cs a σ Λ) H locs → lv_has ls 8 [(0, .ref (a 0)), (1, .int v1), (2, .int v2), (3, .int v3), (6, .int v6)] → W p l e { frames := 3, cells := 0, slots := 0, locals := 72 } s m args below meth c H locs 0 0 Q (F0 m 174 ls [])) : ∀ (v1 : Int32) (v2 : Int32) (v3 : Int32) (v6 : Int32) (σ : St) (H : Heap) (locs : List Loc) (ls : Array Slot), fMo_minute_205 k_174 N v1 v2 v3 v6 σ = some σ' → Wd D A s.heap (wMo cs a σ Λ) H locs → lv_has ls 8 [(0, .ref (a 0)), (1, .int v1), (2, .int v2), (3, .int v3), (6, .int v6)] → W p l e { frames := 3, cells := 0, slots := 0, locals := 72 } s m args below meth c H locs 0 0 Q (F0 m 205 ls []) := by
  intro v1 v2 v3 v6 σ H locs ls h hW hl
  unfold fMo_minute_205 at h
  obtain ⟨x6_4, ex6_4, h⟩ := nm_some h
  refine lv_iinc (v := x6_4) (lv' := [(6, .int x6_4), (0, .ref (a 0)), (1, .int v1), (2, .int v2), (3, .int v3)]) S.1 S.2.1 dX7_minute_205 hl (k := 4) rfl (by rw [ex6_4]; rfl) (by decide) rfl (fun ls hl => ?_)
  refine lv_goto (tgt := 174) S.1 S.2.1 dX7_minute_208 (by decide) ?_
  exact hk_174 v1 v2 v3 x6_4 σ _ _ _ h hW (lv_sub hl [1, 2, 3, 4, 0] rfl)
set_option maxHeartbeats 4000000 in
set_option maxRecDepth 100000 in
theorem wMo_minute_268 {p : Program} {l : Launch} {e : Env} {s : State} {m : MethodId} {args : Array Value} {below : List Frame} {meth : Method} {c : Code} {A : Nat → Prop} {Q : State → Prop} {D : va_G} {cs : Nat → ClassId} {a : Nat → Nat} {Λ : Nat → Int64} {σ' : St} {N : Nat} (S : Fx p m c cX7_minute 8 s args RX7) (hK : va_K D vwCl (tyL cs) s) (hA : ∀ x, s.heap.size ≤ x → A x) (hQ : ∀ (H : Heap) (locs : List Loc) (pc : Nat) (ls : Array Slot), decode cX7_minute pc = .ok (.return_, 1) → Wd D A s.heap (wMo cs a σ' Λ) H locs → W p l e { frames := 3, cells := 0, slots := 0, locals := 72 } s m args below meth c H locs 0 0 Q (F0 m pc ls [])) {k_217 : Int32 → Int32 → Int32 → St → Option (St)} (hk_217 : ∀ (v3 : Int32) (v6 : Int32) (v7 : Int32) (σ : St) (H : Heap) (locs : List Loc) (ls : Array Slot), k_217 v3 v6 v7 σ = some σ' → Wd D A s.heap (wMo cs a σ Λ) H locs → lv_has ls 8 [(0, .ref (a 0)), (3, .int v3), (6, .int v6), (7, .int v7)] → W p l e { frames := 3, cells := 0, slots := 0, locals := 72 } s m args below meth c H locs 0 0 Q (F0 m 217 ls [])) : ∀ (v3 : Int32) (v6 : Int32) (v7 : Int32) (k1 : Int32) (k2 : Int32) (σ : St) (H : Heap) (locs : List Loc) (ls : Array Slot), fMo_minute_268 k_217 N v3 v6 v7 k1 k2 σ = some σ' → Wd D A s.heap (wMo cs a σ Λ) H locs → lv_has ls 8 [(0, .ref (a 0)), (3, .int v3), (6, .int v6), (7, .int v7)] → W p l e { frames := 3, cells := 0, slots := 0, locals := 72 } s m args below meth c H locs 0 0 Q (F0 m 268 ls [.int k2, .int k1, .ref (a 0)]) := by
  intro v3 v6 v7 k1 k2 σ H locs ls h hW hl
  unfold fMo_minute_268 at h
  refine lv_iadd S.1 S.2.1 dX7_minute_268 ?_
  refine pMo_empty S hK hW dX7_minute_269 (fun H locs σ_5 eσ_5 hW => ?_)
  have h := nm_to eσ_5 h
  obtain ⟨x7_6, ex7_6, h⟩ := nm_some h
  refine lv_iinc (v := x7_6) (lv' := [(7, .int x7_6), (0, .ref (a 0)), (3, .int v3), (6, .int v6)]) S.1 S.2.1 dX7_minute_272 hl (k := 3) rfl (by rw [ex7_6]; rfl) (by decide) rfl (fun ls hl => ?_)
  refine lv_goto (tgt := 217) S.1 S.2.1 dX7_minute_275 (by decide) ?_
  exact hk_217 v3 v6 x7_6 σ_5 _ _ _ h hW (lv_sub hl [1, 2, 3, 0] rfl)
set_option maxHeartbeats 4000000 in
set_option maxRecDepth 100000 in
theorem wMo_minute_245 {p : Program} {l : Launch} {e : Env} {s : State} {m : MethodId} {args : Array Value} {below : List Frame} {meth : Method} {c : Code} {A : Nat → Prop} {Q : State → Prop} {D : va_G} {cs : Nat → ClassId} {a : Nat → Nat} {Λ : Nat → Int64} {σ' : St} {N : Nat} (S : Fx p m c cX7_minute 8 s args RX7) (hK : va_K D vwCl (tyL cs) s) (hA : ∀ x, s.heap.size ≤ x → A x) (hQ : ∀ (H : Heap) (locs : List Loc) (pc : Nat) (ls : Array Slot), decode cX7_minute pc = .ok (.return_, 1) → Wd D A s.heap (wMo cs a σ' Λ) H locs → W p l e { frames := 3, cells := 0, slots := 0, locals := 72 } s m args below meth c H locs 0 0 Q (F0 m pc ls [])) {k_217 : Int32 → Int32 → Int32 → St → Option (St)} (hk_217 : ∀ (v3 : Int32) (v6 : Int32) (v7 : Int32) (σ : St) (H : Heap) (locs : List Loc) (ls : Array Slot), k_217 v3 v6 v7 σ = some σ' → Wd D A s.heap (wMo cs a σ Λ) H locs → lv_has ls 8 [(0, .ref (a 0)), (3, .int v3), (6, .int v6), (7, .int v7)] → W p l e { frames := 3, cells := 0, slots := 0, locals := 72 } s m args below meth c H locs 0 0 Q (F0 m 217 ls [])) : ∀ (v3 : Int32) (v7 : Int32) (k0 : Int32) (k1 : Int32) (σ : St) (H : Heap) (locs : List Loc) (ls : Array Slot), fMo_minute_245 k_217 N v3 v7 k0 k1 σ = some σ' → Wd D A s.heap (wMo cs a σ Λ) H locs → lv_has ls 8 [(0, .ref (a 0)), (3, .int v3), (7, .int v7)] → W p l e { frames := 3, cells := 0, slots := 0, locals := 72 } s m args below meth c H locs 0 0 Q (F0 m 245 ls [.int k1, .int k0]) := by
  intro v3 v7 k0 k1 σ H locs ls h hW hl
  unfold fMo_minute_245 at h
  refine lv_iadd S.1 S.2.1 dX7_minute_245 ?_
  refine lv_topi (fun x6_7 ex6_7 => ?_)
  have h := nm_to ex6_7 h
  refine lv_istore (lv' := [(6, .int x6_7), (0, .ref (a 0)), (3, .int v3), (7, .int v7)]) S.1 S.2.1 dX7_minute_246 hl (by decide) rfl (fun ls hl => ?_)
  refine lv_aload_n S.1 S.2.1 dX7_minute_248 rfl (lv_at hl 1 rfl) ?_
  refine lv_dup S.1 S.2.1 dX7_minute_249 rfl ?_
  refine gMo_empty S hK hW dX7_minute_250 ?_
  refine lv_aload_n S.1 S.2.1 dX7_minute_253 rfl (lv_at hl 1 rfl) ?_
  refine gMo_holds S hK hW dX7_minute_254 ?_
  refine lv_iload S.1 S.2.1 dX7_minute_257 (lv_at hl 3 rfl) ?_
  obtain ⟨hi_8, h⟩ := gI_some h
  refine lMo_holds S hK hW hi_8 dX7_minute_259 ?_
  refine lv_if_lt (tgt := 267) S.1 S.2.1 dX7_minute_260 (by decide) (fun c_9 => ?_) (fun c_9 => ?_)
  · have h := ite_t c_9 h
    refine lv_iconst (v := 0) S.1 S.2.1 dX7_minute_267 (by decide) ?_
    exact wMo_minute_268 S hK hA hQ hk_217 v3 x6_7 v7 (σ 0 21) (0 : Int32) σ _ _ _ h hW (lv_sub hl [1, 2, 0, 3] rfl)
  · have h := ite_f c_9 h
    refine lv_iconst (v := 1) S.1 S.2.1 dX7_minute_263 (by decide) ?_
    refine lv_goto (tgt := 268) S.1 S.2.1 dX7_minute_264 (by decide) ?_
    exact wMo_minute_268 S hK hA hQ hk_217 v3 x6_7 v7 (σ 0 21) (1 : Int32) σ _ _ _ h hW (lv_sub hl [1, 2, 0, 3] rfl)
set_option maxHeartbeats 4000000 in
set_option maxRecDepth 100000 in
theorem wMo_minute_217 {p : Program} {l : Launch} {e : Env} {s : State} {m : MethodId} {args : Array Value} {below : List Frame} {meth : Method} {c : Code} {A : Nat → Prop} {Q : State → Prop} {D : va_G} {cs : Nat → ClassId} {a : Nat → Nat} {Λ : Nat → Int64} {σ' : St} {N : Nat} (S : Fx p m c cX7_minute 8 s args RX7) (hK : va_K D vwCl (tyL cs) s) (hA : ∀ x, s.heap.size ≤ x → A x) (hQ : ∀ (H : Heap) (locs : List Loc) (pc : Nat) (ls : Array Slot), decode cX7_minute pc = .ok (.return_, 1) → Wd D A s.heap (wMo cs a σ' Λ) H locs → W p l e { frames := 3, cells := 0, slots := 0, locals := 72 } s m args below meth c H locs 0 0 Q (F0 m pc ls [])) : ∀ (n_217 : Nat) (v3 : Int32) (v6 : Int32) (v7 : Int32) (σ : St) (H : Heap) (locs : List Loc) (ls : Array Slot), fMo_minute_217 N n_217 v3 v6 v7 σ = some σ' → Wd D A s.heap (wMo cs a σ Λ) H locs → lv_has ls 8 [(0, .ref (a 0)), (3, .int v3), (6, .int v6), (7, .int v7)] → W p l e { frames := 3, cells := 0, slots := 0, locals := 72 } s m args below meth c H locs 0 0 Q (F0 m 217 ls []) := by
  intro n_217
  induction n_217 with
  | zero =>
    intro v3 v6 v7 σ H locs ls h
    cases h
  | succ n_217 ih =>
    intro v3 v6 v7 σ H locs ls h hW hl
    unfold fMo_minute_217 at h
    refine lv_iload S.1 S.2.1 dX7_minute_217 (lv_at hl 3 rfl) ?_
    refine lv_aload_n S.1 S.2.1 dX7_minute_219 rfl (lv_at hl 0 rfl) ?_
    refine gMo_seats S hK hW dX7_minute_220 ?_
    refine lv_iconst (v := 0) S.1 S.2.1 dX7_minute_223 (by decide) ?_
    obtain ⟨hi_10, h⟩ := gI_some h
    refine lMo_seats S hK hW hi_10 dX7_minute_224 ?_
    refine lv_icmp_ge (tgt := 278) S.1 S.2.1 dX7_minute_225 (by decide) (fun c_11 => ?_) (fun c_11 => ?_)
    · have h := ite_t c_11 h
      refine lv_aload_n S.1 S.2.1 dX7_minute_278 rfl (lv_at hl 0 rfl) ?_
      refine gMo_seen S hK hW dX7_minute_279 ?_
      refine lv_iload_n S.1 S.2.1 dX7_minute_282 rfl (lv_at hl 1 rfl) ?_
      refine lv_iload S.1 S.2.1 dX7_minute_283 (lv_at hl 2 rfl) ?_
      obtain ⟨hi_12, h⟩ := gI_some h
      refine sMo_seen S hK hW hi_12 dX7_minute_285 (fun H locs σ_13 eσ_13 hW => ?_)
      have h := nm_to eσ_13 h
      refine lv_aload_n S.1 S.2.1 dX7_minute_286 rfl (lv_at hl 0 rfl) ?_
      refine lv_dup S.1 S.2.1 dX7_minute_287 rfl ?_
      refine gMo_used S hK hW dX7_minute_288 ?_
      refine lv_iload S.1 S.2.1 dX7_minute_291 (lv_at hl 2 rfl) ?_
      refine lv_iadd S.1 S.2.1 dX7_minute_293 ?_
      refine pMo_used S hK hW dX7_minute_294 (fun H locs σ_14 eσ_14 hW => ?_)
      have h := nm_to eσ_14 h
      obtain rfl := pr1 h
      exact hQ _ _ _ _ dX7_minute_297 hW
    · have h := ite_f c_11 h
      refine lv_iload S.1 S.2.1 dX7_minute_228 (lv_at hl 2 rfl) ?_
      refine lv_aload_n S.1 S.2.1 dX7_minute_230 rfl (lv_at hl 0 rfl) ?_
      refine gMo_sits S hK hW dX7_minute_231 ?_
      refine lv_iload S.1 S.2.1 dX7_minute_234 (lv_at hl 3 rfl) ?_
      obtain ⟨hi_15, h⟩ := gI_some h
      refine lMo_sits S hK hW hi_15 dX7_minute_236 ?_
      refine lv_if_lt (tgt := 244) S.1 S.2.1 dX7_minute_237 (by decide) (fun c_16 => ?_) (fun c_16 => ?_)
      · have h := ite_t c_16 h
        refine lv_iconst (v := 0) S.1 S.2.1 dX7_minute_244 (by decide) ?_
        exact wMo_minute_245 S hK hA hQ ih v3 v7 v6 (0 : Int32) σ _ _ _ h hW (lv_sub hl [0, 1, 3] rfl)
      · have h := ite_f c_16 h
        refine lv_iconst (v := 1) S.1 S.2.1 dX7_minute_240 (by decide) ?_
        refine lv_goto (tgt := 245) S.1 S.2.1 dX7_minute_241 (by decide) ?_
        exact wMo_minute_245 S hK hA hQ ih v3 v7 v6 (1 : Int32) σ _ _ _ h hW (lv_sub hl [0, 1, 3] rfl)
set_option maxHeartbeats 4000000 in
set_option maxRecDepth 100000 in
theorem wMo_minute_174 {p : Program} {l : Launch} {e : Env} {s : State} {m : MethodId} {args : Array Value} {below : List Frame} {meth : Method} {c : Code} {A : Nat → Prop} {Q : State → Prop} {D : va_G} {cs : Nat → ClassId} {a : Nat → Nat} {Λ : Nat → Int64} {σ' : St} {N : Nat} (S : Fx p m c cX7_minute 8 s args RX7) (hK : va_K D vwCl (tyL cs) s) (hA : ∀ x, s.heap.size ≤ x → A x) (hQ : ∀ (H : Heap) (locs : List Loc) (pc : Nat) (ls : Array Slot), decode cX7_minute pc = .ok (.return_, 1) → Wd D A s.heap (wMo cs a σ' Λ) H locs → W p l e { frames := 3, cells := 0, slots := 0, locals := 72 } s m args below meth c H locs 0 0 Q (F0 m pc ls [])) : ∀ (n_174 : Nat) (v1 : Int32) (v2 : Int32) (v3 : Int32) (v6 : Int32) (σ : St) (H : Heap) (locs : List Loc) (ls : Array Slot), fMo_minute_174 N n_174 v1 v2 v3 v6 σ = some σ' → Wd D A s.heap (wMo cs a σ Λ) H locs → lv_has ls 8 [(0, .ref (a 0)), (1, .int v1), (2, .int v2), (3, .int v3), (6, .int v6)] → W p l e { frames := 3, cells := 0, slots := 0, locals := 72 } s m args below meth c H locs 0 0 Q (F0 m 174 ls []) := by
  intro n_174
  induction n_174 with
  | zero =>
    intro v1 v2 v3 v6 σ H locs ls h
    cases h
  | succ n_174 ih =>
    intro v1 v2 v3 v6 σ H locs ls h hW hl
    unfold fMo_minute_174 at h
    refine lv_iload S.1 S.2.1 dX7_minute_174 (lv_at hl 4 rfl) ?_
    refine lv_aload_n S.1 S.2.1 dX7_minute_176 rfl (lv_at hl 0 rfl) ?_
    refine gMo_readers S hK hW dX7_minute_177 ?_
    refine lv_iconst (v := 0) S.1 S.2.1 dX7_minute_180 (by decide) ?_
    obtain ⟨hi_17, h⟩ := gI_some h
    refine lMo_readers S hK hW hi_17 dX7_minute_181 ?_
    refine lv_icmp_ge (tgt := 211) S.1 S.2.1 dX7_minute_182 (by decide) (fun c_18 => ?_) (fun c_18 => ?_)
    · have h := ite_t c_18 h
      refine lv_iconst (v := 0) S.1 S.2.1 dX7_minute_211 (by decide) ?_
      refine lv_istore (lv' := [(6, .int (0 : Int32)), (0, .ref (a 0)), (1, .int v1), (2, .int v2), (3, .int v3)]) S.1 S.2.1 dX7_minute_212 hl (by decide) rfl (fun ls hl => ?_)
      refine lv_iconst (v := 0) S.1 S.2.1 dX7_minute_214 (by decide) ?_
      refine lv_istore (lv' := [(7, .int (0 : Int32)), (6, .int (0 : Int32)), (0, .ref (a 0)), (1, .int v1), (2, .int v2), (3, .int v3)]) S.1 S.2.1 dX7_minute_215 hl (by decide) rfl (fun ls hl => ?_)
      exact wMo_minute_217 S hK hA hQ N v3 (0 : Int32) (0 : Int32) σ _ _ _ h hW (lv_sub hl [2, 5, 1, 0] rfl)
    · have h := ite_f c_18 h
      refine lv_aload_n S.1 S.2.1 dX7_minute_185 rfl (lv_at hl 0 rfl) ?_
      refine gMo_does S hK hW dX7_minute_186 ?_
      refine lv_iload S.1 S.2.1 dX7_minute_189 (lv_at hl 4 rfl) ?_
      obtain ⟨hi_19, h⟩ := gI_some h
      refine lMo_does S hK hW hi_19 dX7_minute_191 ?_
      refine lv_iconst (v := 2) S.1 S.2.1 dX7_minute_192 (by decide) ?_
      refine lv_icmp_ne (tgt := 205) S.1 S.2.1 dX7_minute_193 (by decide) (fun c_20 => ?_) (fun c_20 => ?_)
      · have h := ite_f c_20 h
        exact wMo_minute_205 S hK hA hQ ih v1 v2 v3 v6 σ _ _ _ h hW (lv_sub hl [0, 1, 2, 3, 4] rfl)
      · have h := ite_t c_20 h
        refine lv_aload_n S.1 S.2.1 dX7_minute_196 rfl (lv_at hl 0 rfl) ?_
        refine lv_iload_n S.1 S.2.1 dX7_minute_197 rfl (lv_at hl 1 rfl) ?_
        refine lv_iload_n S.1 S.2.1 dX7_minute_198 rfl (lv_at hl 2 rfl) ?_
        refine lv_iload S.1 S.2.1 dX7_minute_199 (lv_at hl 4 rfl) ?_
        refine lv_iload_n S.1 S.2.1 dX7_minute_201 rfl (lv_at hl 3 rfl) ?_
        obtain ⟨σ_21, hc_22, h⟩ := cl1_some h
        have hW := kw_same hW
        refine kV_v (As := [.int v1, .int v2, .int v6, .int v3]) (rest := []) S hK hA (z := none) trivial [] [] hW (cMo_sitsOn l D cs a σ Λ v1 v2 v6 v3 N hc_22) (ci := 6) rfl rfl lk_X7_164 q880 q34 ⟨Nat.le_of_ble_eq_true rfl, Nat.le_of_ble_eq_true rfl⟩ rfl (Nat.le_of_ble_eq_true rfl) hl.1 dX7_minute_202 ⟨Nat.zero_le _, Nat.zero_le _⟩ (fun H locs hW => ?_)
        have hW : Wd D A s.heap (wMo cs a σ_21 Λ) H locs := kw_back hW
        exact wMo_minute_205 S hK hA hQ ih v1 v2 v3 v6 σ_21 _ _ _ h hW (lv_sub hl [0, 1, 2, 3, 4] rfl)
set_option maxHeartbeats 4000000 in
set_option maxRecDepth 100000 in
theorem wMo_minute_135 {p : Program} {l : Launch} {e : Env} {s : State} {m : MethodId} {args : Array Value} {below : List Frame} {meth : Method} {c : Code} {A : Nat → Prop} {Q : State → Prop} {D : va_G} {cs : Nat → ClassId} {a : Nat → Nat} {Λ : Nat → Int64} {σ' : St} {N : Nat} (S : Fx p m c cX7_minute 8 s args RX7) (hK : va_K D vwCl (tyL cs) s) (hA : ∀ x, s.heap.size ≤ x → A x) (hQ : ∀ (H : Heap) (locs : List Loc) (pc : Nat) (ls : Array Slot), decode cX7_minute pc = .ok (.return_, 1) → Wd D A s.heap (wMo cs a σ' Λ) H locs → W p l e { frames := 3, cells := 0, slots := 0, locals := 72 } s m args below meth c H locs 0 0 Q (F0 m pc ls [])) : ∀ (n_135 : Nat) (v1 : Int32) (v2 : Int32) (v3 : Int32) (v6 : Int32) (σ : St) (H : Heap) (locs : List Loc) (ls : Array Slot), fMo_minute_135 N n_135 v1 v2 v3 v6 σ = some σ' → Wd D A s.heap (wMo cs a σ Λ) H locs → lv_has ls 8 [(0, .ref (a 0)), (1, .int v1), (2, .int v2), (3, .int v3), (6, .int v6)] → W p l e { frames := 3, cells := 0, slots := 0, locals := 72 } s m args below meth c H locs 0 0 Q (F0 m 135 ls []) := by
  intro n_135
  induction n_135 with
  | zero =>
    intro v1 v2 v3 v6 σ H locs ls h
    cases h
  | succ n_135 ih =>
    intro v1 v2 v3 v6 σ H locs ls h hW hl
    unfold fMo_minute_135 at h
    refine lv_iload S.1 S.2.1 dX7_minute_135 (lv_at hl 4 rfl) ?_
    refine lv_aload_n S.1 S.2.1 dX7_minute_137 rfl (lv_at hl 0 rfl) ?_
    refine gMo_readers S hK hW dX7_minute_138 ?_
    refine lv_iconst (v := 0) S.1 S.2.1 dX7_minute_141 (by decide) ?_
    obtain ⟨hi_23, h⟩ := gI_some h
    refine lMo_readers S hK hW hi_23 dX7_minute_142 ?_
    refine lv_icmp_ge (tgt := 171) S.1 S.2.1 dX7_minute_143 (by decide) (fun c_24 => ?_) (fun c_24 => ?_)
    · have h := ite_t c_24 h
      refine lv_iconst (v := 0) S.1 S.2.1 dX7_minute_171 (by decide) ?_
      refine lv_istore (lv' := [(6, .int (0 : Int32)), (0, .ref (a 0)), (1, .int v1), (2, .int v2), (3, .int v3)]) S.1 S.2.1 dX7_minute_172 hl (by decide) rfl (fun ls hl => ?_)
      exact wMo_minute_174 S hK hA hQ N v1 v2 v3 (0 : Int32) σ _ _ _ h hW (lv_sub hl [1, 2, 3, 4, 0] rfl)
    · have h := ite_f c_24 h
      refine lv_aload_n S.1 S.2.1 dX7_minute_146 rfl (lv_at hl 0 rfl) ?_
      refine gMo_does S hK hW dX7_minute_147 ?_
      refine lv_iload S.1 S.2.1 dX7_minute_150 (lv_at hl 4 rfl) ?_
      obtain ⟨hi_25, h⟩ := gI_some h
      refine lMo_does S hK hW hi_25 dX7_minute_152 ?_
      refine lv_iconst (v := 1) S.1 S.2.1 dX7_minute_153 (by decide) ?_
      refine lv_icmp_ne (tgt := 165) S.1 S.2.1 dX7_minute_154 (by decide) (fun c_26 => ?_) (fun c_26 => ?_)
      · have h := ite_f c_26 h
        exact wMo_minute_165 S hK hA hQ ih v1 v2 v3 v6 σ _ _ _ h hW (lv_sub hl [0, 1, 2, 3, 4] rfl)
      · have h := ite_t c_26 h
        refine lv_aload_n S.1 S.2.1 dX7_minute_157 rfl (lv_at hl 0 rfl) ?_
        refine lv_iload_n S.1 S.2.1 dX7_minute_158 rfl (lv_at hl 1 rfl) ?_
        refine lv_iload S.1 S.2.1 dX7_minute_159 (lv_at hl 4 rfl) ?_
        refine lv_iload_n S.1 S.2.1 dX7_minute_161 rfl (lv_at hl 3 rfl) ?_
        obtain ⟨σ_27, hc_28, h⟩ := cl1_some h
        have hW := kw_same hW
        refine kV_v (As := [.int v1, .int v6, .int v3]) (rest := []) S hK hA (z := none) trivial [] [] hW (cMo_seeks l D cs a σ Λ v1 v6 v3 N hc_28) (ci := 6) rfl rfl lk_X7_160 q869 q32 ⟨Nat.le_of_ble_eq_true rfl, Nat.le_of_ble_eq_true rfl⟩ rfl (Nat.le_of_ble_eq_true rfl) hl.1 dX7_minute_162 ⟨Nat.zero_le _, Nat.zero_le _⟩ (fun H locs hW => ?_)
        have hW : Wd D A s.heap (wMo cs a σ_27 Λ) H locs := kw_back hW
        exact wMo_minute_165 S hK hA hQ ih v1 v2 v3 v6 σ_27 _ _ _ h hW (lv_sub hl [0, 1, 2, 3, 4] rfl)
set_option maxHeartbeats 4000000 in
set_option maxRecDepth 100000 in
theorem wMo_minute_70 {p : Program} {l : Launch} {e : Env} {s : State} {m : MethodId} {args : Array Value} {below : List Frame} {meth : Method} {c : Code} {A : Nat → Prop} {Q : State → Prop} {D : va_G} {cs : Nat → ClassId} {a : Nat → Nat} {Λ : Nat → Int64} {σ' : St} {N : Nat} (S : Fx p m c cX7_minute 8 s args RX7) (hK : va_K D vwCl (tyL cs) s) (hA : ∀ x, s.heap.size ≤ x → A x) (hQ : ∀ (H : Heap) (locs : List Loc) (pc : Nat) (ls : Array Slot), decode cX7_minute pc = .ok (.return_, 1) → Wd D A s.heap (wMo cs a σ' Λ) H locs → W p l e { frames := 3, cells := 0, slots := 0, locals := 72 } s m args below meth c H locs 0 0 Q (F0 m pc ls [])) : ∀ (n_70 : Nat) (v1 : Int32) (v2 : Int32) (v3 : Int32) (v6 : Int32) (σ : St) (H : Heap) (locs : List Loc) (ls : Array Slot), fMo_minute_70 N n_70 v1 v2 v3 v6 σ = some σ' → Wd D A s.heap (wMo cs a σ Λ) H locs → lv_has ls 8 [(0, .ref (a 0)), (1, .int v1), (2, .int v2), (3, .int v3), (6, .int v6)] → W p l e { frames := 3, cells := 0, slots := 0, locals := 72 } s m args below meth c H locs 0 0 Q (F0 m 70 ls []) := by
  intro n_70
  induction n_70 with
  | zero =>
    intro v1 v2 v3 v6 σ H locs ls h
    cases h
  | succ n_70 ih =>
    intro v1 v2 v3 v6 σ H locs ls h hW hl
    unfold fMo_minute_70 at h
    refine lv_iload S.1 S.2.1 dX7_minute_70 (lv_at hl 4 rfl) ?_
    refine lv_aload_n S.1 S.2.1 dX7_minute_72 rfl (lv_at hl 0 rfl) ?_
    refine gMo_readers S hK hW dX7_minute_73 ?_
    refine lv_iconst (v := 0) S.1 S.2.1 dX7_minute_76 (by decide) ?_
    obtain ⟨hi_29, h⟩ := gI_some h
    refine lMo_readers S hK hW hi_29 dX7_minute_77 ?_
    refine lv_icmp_ge (tgt := 132) S.1 S.2.1 dX7_minute_78 (by decide) (fun c_30 => ?_) (fun c_30 => ?_)
    · have h := ite_t c_30 h
      refine lv_iconst (v := 0) S.1 S.2.1 dX7_minute_132 (by decide) ?_
      refine lv_istore (lv' := [(6, .int (0 : Int32)), (0, .ref (a 0)), (1, .int v1), (2, .int v2), (3, .int v3)]) S.1 S.2.1 dX7_minute_133 hl (by decide) rfl (fun ls hl => ?_)
      exact wMo_minute_135 S hK hA hQ N v1 v2 v3 (0 : Int32) σ _ _ _ h hW (lv_sub hl [1, 2, 3, 4, 0] rfl)
    · have h := ite_f c_30 h
      refine lv_aload_n S.1 S.2.1 dX7_minute_81 rfl (lv_at hl 0 rfl) ?_
      refine gMo_does S hK hW dX7_minute_82 ?_
      refine lv_iload S.1 S.2.1 dX7_minute_85 (lv_at hl 4 rfl) ?_
      obtain ⟨hi_31, h⟩ := gI_some h
      refine lMo_does S hK hW hi_31 dX7_minute_87 ?_
      refine lv_if_ne (tgt := 126) S.1 S.2.1 dX7_minute_88 (by decide) (fun c_32 => ?_) (fun c_32 => ?_)
      · have h := ite_f c_32 h
        exact wMo_minute_126 S hK hA hQ ih v1 v2 v3 v6 σ _ _ _ h hW (lv_sub hl [0, 1, 2, 3, 4] rfl)
      · have h := ite_t c_32 h
        refine lv_aload_n S.1 S.2.1 dX7_minute_91 rfl (lv_at hl 0 rfl) ?_
        refine lv_iload S.1 S.2.1 dX7_minute_92 (lv_at hl 4 rfl) ?_
        refine lv_iconst (v := 0) S.1 S.2.1 dX7_minute_94 (by decide) ?_
        obtain ⟨r_33, hc_34, h⟩ := cl1_some h
        have hW := kw_same hW
        refine kV_i (As := [.int v6, .int (0 : Int32)]) (rest := []) S hK hA (z := none) trivial [] [] hW (cMo_of l D cs a σ Λ v6 (0 : Int32) N hc_34) (ci := 6) rfl rfl lk_X7_135 q825 q26 ⟨Nat.le_of_ble_eq_true rfl, Nat.le_of_ble_eq_true rfl⟩ rfl (Nat.le_of_ble_eq_true rfl) hl.1 dX7_minute_95 ⟨Nat.zero_le _, Nat.zero_le _⟩ (fun H locs hW => ?_)
        have hW : Wd D A s.heap (wMo cs a σ Λ) H locs := kw_back hW
        refine lv_aload_n S.1 S.2.1 dX7_minute_98 rfl (lv_at hl 0 rfl) ?_
        refine gMo_late S hK hW dX7_minute_99 ?_
        refine lv_iload S.1 S.2.1 dX7_minute_102 (lv_at hl 4 rfl) ?_
        obtain ⟨hi_35, h⟩ := gI_some h
        refine lMo_late S hK hW hi_35 dX7_minute_104 ?_
        refine lv_iadd S.1 S.2.1 dX7_minute_105 ?_
        refine lv_iload_n S.1 S.2.1 dX7_minute_106 rfl (lv_at hl 3 rfl) ?_
        refine lv_icmp_ne (tgt := 126) S.1 S.2.1 dX7_minute_107 (by decide) (fun c_36 => ?_) (fun c_36 => ?_)
        · have h := ite_f c_36 h
          exact wMo_minute_126 S hK hA hQ ih v1 v2 v3 v6 σ _ _ _ h hW (lv_sub hl [0, 1, 2, 3, 4] rfl)
        · have h := ite_t c_36 h
          refine lv_aload_n S.1 S.2.1 dX7_minute_110 rfl (lv_at hl 0 rfl) ?_
          refine gMo_does S hK hW dX7_minute_111 ?_
          refine lv_iload S.1 S.2.1 dX7_minute_114 (lv_at hl 4 rfl) ?_
          refine lv_iconst (v := 1) S.1 S.2.1 dX7_minute_116 (by decide) ?_
          obtain ⟨hi_37, h⟩ := gI_some h
          refine sMo_does S hK hW hi_37 dX7_minute_117 (fun H locs σ_38 eσ_38 hW => ?_)
          have h := nm_to eσ_38 h
          refine lv_aload_n S.1 S.2.1 dX7_minute_118 rfl (lv_at hl 0 rfl) ?_
          refine gMo_since S hK hW dX7_minute_119 ?_
          refine lv_iload S.1 S.2.1 dX7_minute_122 (lv_at hl 4 rfl) ?_
          refine lv_iload_n S.1 S.2.1 dX7_minute_124 rfl (lv_at hl 3 rfl) ?_
          obtain ⟨hi_39, h⟩ := gI_some h
          refine sMo_since S hK hW hi_39 dX7_minute_125 (fun H locs σ_40 eσ_40 hW => ?_)
          have h := nm_to eσ_40 h
          exact wMo_minute_126 S hK hA hQ ih v1 v2 v3 v6 σ_40 _ _ _ h hW (lv_sub hl [0, 1, 2, 3, 4] rfl)
set_option maxHeartbeats 4000000 in
set_option maxRecDepth 100000 in
theorem wMo_minute_3 {p : Program} {l : Launch} {e : Env} {s : State} {m : MethodId} {args : Array Value} {below : List Frame} {meth : Method} {c : Code} {A : Nat → Prop} {Q : State → Prop} {D : va_G} {cs : Nat → ClassId} {a : Nat → Nat} {Λ : Nat → Int64} {σ' : St} {N : Nat} (S : Fx p m c cX7_minute 8 s args RX7) (hK : va_K D vwCl (tyL cs) s) (hA : ∀ x, s.heap.size ≤ x → A x) (hQ : ∀ (H : Heap) (locs : List Loc) (pc : Nat) (ls : Array Slot), decode cX7_minute pc = .ok (.return_, 1) → Wd D A s.heap (wMo cs a σ' Λ) H locs → W p l e { frames := 3, cells := 0, slots := 0, locals := 72 } s m args below meth c H locs 0 0 Q (F0 m pc ls [])) : ∀ (n_3 : Nat) (v1 : Int32) (v2 : Int32) (v3 : Int32) (v4 : Int32) (v5 : Int32) (v6 : Int32) (σ : St) (H : Heap) (locs : List Loc) (ls : Array Slot), fMo_minute_3 N n_3 v1 v2 v3 v4 v5 v6 σ = some σ' → Wd D A s.heap (wMo cs a σ Λ) H locs → lv_has ls 8 [(0, .ref (a 0)), (1, .int v1), (2, .int v2), (3, .int v3), (4, .int v4), (5, .int v5), (6, .int v6)] → W p l e { frames := 3, cells := 0, slots := 0, locals := 72 } s m args below meth c H locs 0 0 Q (F0 m 3 ls []) := by
  intro n_3
  induction n_3 with
  | zero =>
    intro v1 v2 v3 v4 v5 v6 σ H locs ls h
    cases h
  | succ n_3 ih =>
    intro v1 v2 v3 v4 v5 v6 σ H locs ls h hW hl
    unfold fMo_minute_3 at h
    refine lv_iload S.1 S.2.1 dX7_minute_3 (lv_at hl 6 rfl) ?_
    refine lv_aload_n S.1 S.2.1 dX7_minute_5 rfl (lv_at hl 0 rfl) ?_
    refine gMo_readers S hK hW dX7_minute_6 ?_
    refine lv_iconst (v := 0) S.1 S.2.1 dX7_minute_9 (by decide) ?_
    obtain ⟨hi_41, h⟩ := gI_some h
    refine lMo_readers S hK hW hi_41 dX7_minute_10 ?_
    refine lv_icmp_ge (tgt := 57) S.1 S.2.1 dX7_minute_11 (by decide) (fun c_42 => ?_) (fun c_42 => ?_)
    · have h := ite_t c_42 h
      refine lv_aload_n S.1 S.2.1 dX7_minute_57 rfl (lv_at hl 0 rfl) ?_
      refine lv_iload_n S.1 S.2.1 dX7_minute_58 rfl (lv_at hl 1 rfl) ?_
      refine lv_iload_n S.1 S.2.1 dX7_minute_59 rfl (lv_at hl 3 rfl) ?_
      refine lv_iload S.1 S.2.1 dX7_minute_60 (lv_at hl 4 rfl) ?_
      refine lv_iload S.1 S.2.1 dX7_minute_62 (lv_at hl 5 rfl) ?_
      obtain ⟨σ_43, hc_44, h⟩ := cl1_some h
      have hW := kw_same hW
      refine kV_v (As := [.int v1, .int v3, .int v4, .int v5]) (rest := []) S hK hA (z := none) trivial [] [] hW (cMo_frees l D cs a σ Λ v1 v3 v4 v5 N hc_44) (ci := 6) rfl rfl lk_X7_156 q865 q31 ⟨Nat.le_of_ble_eq_true rfl, Nat.le_of_ble_eq_true rfl⟩ rfl (Nat.le_of_ble_eq_true rfl) hl.1 dX7_minute_64 ⟨Nat.zero_le _, Nat.zero_le _⟩ (fun H locs hW => ?_)
      have hW : Wd D A s.heap (wMo cs a σ_43 Λ) H locs := kw_back hW
      refine lv_iconst (v := 0) S.1 S.2.1 dX7_minute_67 (by decide) ?_
      refine lv_istore (lv' := [(6, .int (0 : Int32)), (0, .ref (a 0)), (1, .int v1), (2, .int v2), (3, .int v3), (4, .int v4), (5, .int v5)]) S.1 S.2.1 dX7_minute_68 hl (by decide) rfl (fun ls hl => ?_)
      exact wMo_minute_70 S hK hA hQ N v1 v2 v3 (0 : Int32) σ_43 _ _ _ h hW (lv_sub hl [1, 2, 3, 4, 0] rfl)
    · have h := ite_f c_42 h
      refine lv_aload_n S.1 S.2.1 dX7_minute_14 rfl (lv_at hl 0 rfl) ?_
      refine gMo_does S hK hW dX7_minute_15 ?_
      refine lv_iload S.1 S.2.1 dX7_minute_18 (lv_at hl 6 rfl) ?_
      obtain ⟨hi_45, h⟩ := gI_some h
      refine lMo_does S hK hW hi_45 dX7_minute_20 ?_
      refine lv_iconst (v := 3) S.1 S.2.1 dX7_minute_21 (by decide) ?_
      refine lv_icmp_ne (tgt := 51) S.1 S.2.1 dX7_minute_22 (by decide) (fun c_46 => ?_) (fun c_46 => ?_)
      · have h := ite_f c_46 h
        exact wMo_minute_51 S hK hA hQ ih v1 v2 v3 v4 v5 v6 σ _ _ _ h hW (lv_sub hl [0, 1, 2, 3, 4, 5, 6] rfl)
      · have h := ite_t c_46 h
        refine lv_iload_n S.1 S.2.1 dX7_minute_25 rfl (lv_at hl 3 rfl) ?_
        refine lv_aload_n S.1 S.2.1 dX7_minute_26 rfl (lv_at hl 0 rfl) ?_
        refine gMo_went S hK hW dX7_minute_27 ?_
        refine lv_iload S.1 S.2.1 dX7_minute_30 (lv_at hl 6 rfl) ?_
        obtain ⟨hi_47, h⟩ := gI_some h
        refine lMo_went S hK hW hi_47 dX7_minute_32 ?_
        refine lv_isub S.1 S.2.1 dX7_minute_33 ?_
        refine lv_aload_n S.1 S.2.1 dX7_minute_34 rfl (lv_at hl 0 rfl) ?_
        refine lv_iload S.1 S.2.1 dX7_minute_35 (lv_at hl 6 rfl) ?_
        refine lv_iconst (v := 3) S.1 S.2.1 dX7_minute_37 (by decide) ?_
        obtain ⟨r_48, hc_49, h⟩ := cl1_some h
        have hW := kw_same hW
        refine kV_i (As := [.int v6, .int (3 : Int32)]) (rest := [.int (v3 - (σ 16 v6.toNatClampNeg))]) S hK hA (z := none) trivial [] [] hW (cMo_of l D cs a σ Λ v6 (3 : Int32) N hc_49) (ci := 6) rfl rfl lk_X7_135 q825 q26 ⟨Nat.le_of_ble_eq_true rfl, Nat.le_of_ble_eq_true rfl⟩ rfl (Nat.le_of_ble_eq_true rfl) hl.1 dX7_minute_38 ⟨Nat.zero_le _, Nat.zero_le _⟩ (fun H locs hW => ?_)
        have hW : Wd D A s.heap (wMo cs a σ Λ) H locs := kw_back hW
        refine lv_icmp_ne (tgt := 51) S.1 S.2.1 dX7_minute_41 (by decide) (fun c_50 => ?_) (fun c_50 => ?_)
        · have h := ite_f c_50 h
          exact wMo_minute_51 S hK hA hQ ih v1 v2 v3 v4 v5 v6 σ _ _ _ h hW (lv_sub hl [0, 1, 2, 3, 4, 5, 6] rfl)
        · have h := ite_t c_50 h
          refine lv_aload_n S.1 S.2.1 dX7_minute_44 rfl (lv_at hl 0 rfl) ?_
          refine lv_iload S.1 S.2.1 dX7_minute_45 (lv_at hl 6 rfl) ?_
          refine lv_iload_n S.1 S.2.1 dX7_minute_47 rfl (lv_at hl 3 rfl) ?_
          obtain ⟨σ_51, hc_52, h⟩ := cl1_some h
          have hW := kw_same hW
          refine kV_v (As := [.int v6, .int v3]) (rest := []) S hK hA (z := none) trivial [] [] hW (cMo_comesBack l D cs a σ Λ v6 v3 N hc_52) (ci := 6) rfl rfl lk_X7_152 q861 q30 ⟨Nat.le_of_ble_eq_true rfl, Nat.le_of_ble_eq_true rfl⟩ rfl (Nat.le_of_ble_eq_true rfl) hl.1 dX7_minute_48 ⟨Nat.zero_le _, Nat.zero_le _⟩ (fun H locs hW => ?_)
          have hW : Wd D A s.heap (wMo cs a σ_51 Λ) H locs := kw_back hW
          exact wMo_minute_51 S hK hA hQ ih v1 v2 v3 v4 v5 v6 σ_51 _ _ _ h hW (lv_sub hl [0, 1, 2, 3, 4, 5, 6] rfl)
set_option maxHeartbeats 4000000 in
set_option maxRecDepth 100000 in
theorem cMo_minute (l : Launch) (D : va_G) (cs : Nat → ClassId) (a : Nat → Nat) (σ : St) (Λ : Nat → Int64) (p0 : Int32) (p1 : Int32) (p2 : Int32) (p3 : Int32) (p4 : Int32) (N : Nat) {σ' : St} (h : fMo_minute N p0 p1 p2 p3 p4 σ = some σ') : Kv l D cs none yX7_minute cX7_minute 8 none 3 72 (wMo cs a σ Λ) [.ref (a 0), .int p0, .int p1, .int p2, .int p3, .int p4] (wMo cs a σ' Λ) := by
  refine Kv_of (by decide +kernel) (Nat.le_of_ble_eq_true rfl) (fun p e s m below meth c A S hK hA hZ Q hQ ls hl hW => ?_)
  have hl : lv_has ls 8 [(0, .ref (a 0)), (1, .int p0), (2, .int p1), (3, .int p2), (4, .int p3), (5, .int p4)] := hl
  unfold fMo_minute at h
  refine lv_iconst (v := 0) S.1 S.2.1 dX7_minute_0 (by decide) ?_
  refine lv_istore (lv' := [(6, .int (0 : Int32)), (0, .ref (a 0)), (1, .int p0), (2, .int p1), (3, .int p2), (4, .int p3), (5, .int p4)]) S.1 S.2.1 dX7_minute_1 hl (by decide) rfl (fun ls hl => ?_)
  exact wMo_minute_3 S hK hA hQ N p0 p1 p2 p3 p4 (0 : Int32) σ _ _ _ h hW (lv_sub hl [1, 2, 3, 4, 5, 6, 0] rfl)
