set_option maxHeartbeats 4000000 in
set_option maxRecDepth 100000 in
theorem wDa_runTo_62 {p : Program} {l : Launch} {e : Env} {s : State} {m : MethodId} {args : Array Value} {below : List Frame} {meth : Method} {c : Code} {A : Nat → Prop} {Q : State → Prop} {D : va_G} {cs : Nat → ClassId} {a aR : Nat → Nat} {ρ : St} {δ' : St} {N : Nat} (S : Fx p m c cX0_runTo 3 s args RX0) (hK : va_K D vwCl (tyL cs) s) (hA : ∀ x, s.heap.size ≤ x → A x) (hQ : ∀ (H : Heap) (locs : List Loc) (pc : Nat) (ls : Array Slot), decode cX0_runTo pc = .ok (.return_, 1) → Wd D A s.heap (wDa cs a (aR 0) δ' ++ (wRo cs aR ρ)) H locs → W p l e { frames := 3, cells := 0, slots := 0, locals := 72 } s m args below meth c H locs 0 0 Q (F0 m pc ls [])) : ∀ (δ : St) (H : Heap) (locs : List Loc) (ls : Array Slot), fDa_runTo_62 N ρ δ = some δ' → Wd D A s.heap (wDa cs a (aR 0) δ ++ (wRo cs aR ρ)) H locs → lv_has ls 3 [] → W p l e { frames := 3, cells := 0, slots := 0, locals := 72 } s m args below meth c H locs 0 0 Q (F0 m 62 ls []) := by
  intro δ H locs ls h hW hl
  unfold fDa_runTo_62 at h
  obtain rfl := pr1 h
  exact hQ _ _ _ _ dX0_runTo_62 hW
set_option maxHeartbeats 4000000 in
set_option maxRecDepth 100000 in
theorem wDa_runTo_5 {p : Program} {l : Launch} {e : Env} {s : State} {m : MethodId} {args : Array Value} {below : List Frame} {meth : Method} {c : Code} {A : Nat → Prop} {Q : State → Prop} {D : va_G} {cs : Nat → ClassId} {a aR : Nat → Nat} {ρ : St} {δ' : St} {N : Nat} (S : Fx p m c cX0_runTo 3 s args RX0) (hK : va_K D vwCl (tyL cs) s) (hA : ∀ x, s.heap.size ≤ x → A x) (hQ : ∀ (H : Heap) (locs : List Loc) (pc : Nat) (ls : Array Slot), decode cX0_runTo pc = .ok (.return_, 1) → Wd D A s.heap (wDa cs a (aR 0) δ' ++ (wRo cs aR ρ)) H locs → W p l e { frames := 3, cells := 0, slots := 0, locals := 72 } s m args below meth c H locs 0 0 Q (F0 m pc ls [])) : ∀ (n_5 : Nat) (v1 : Int32) (v2 : Int32) (δ : St) (H : Heap) (locs : List Loc) (ls : Array Slot), fDa_runTo_5 N ρ n_5 v1 v2 δ = some δ' → Wd D A s.heap (wDa cs a (aR 0) δ ++ (wRo cs aR ρ)) H locs → lv_has ls 3 [(0, .ref (a 0)), (1, .int v1), (2, .int v2)] → W p l e { frames := 3, cells := 0, slots := 0, locals := 72 } s m args below meth c H locs 0 0 Q (F0 m 5 ls []) := by
  intro n_5
  induction n_5 with
  | zero =>
    intro v1 v2 δ H locs ls h
    cases h
  | succ n_5 ih =>
    intro v1 v2 δ H locs ls h hW hl
    unfold fDa_runTo_5 at h
    refine lv_iload_n S.1 S.2.1 dX0_runTo_5 rfl (lv_at hl 2 rfl) ?_
    refine lv_iload_n S.1 S.2.1 dX0_runTo_6 rfl (lv_at hl 1 rfl) ?_
    refine lv_icmp_gt (tgt := 62) S.1 S.2.1 dX0_runTo_7 (by decide) (fun c_1 => ?_) (fun c_1 => ?_)
    · have h := ite_t c_1 h
      exact wDa_runTo_62 S hK hA hQ δ _ _ _ h hW (lv_sub hl [] rfl)
    · have h := ite_f c_1 h
      refine lv_iload_n S.1 S.2.1 dX0_runTo_10 rfl (lv_at hl 2 rfl) ?_
      refine lv_sipush (v := 400) S.1 S.2.1 dX0_runTo_11 (by decide) ?_
      refine lv_icmp_ge (tgt := 62) S.1 S.2.1 dX0_runTo_14 (by decide) (fun c_2 => ?_) (fun c_2 => ?_)
      · have h := ite_t c_2 h
        exact wDa_runTo_62 S hK hA hQ δ _ _ _ h hW (lv_sub hl [] rfl)
      · have h := ite_f c_2 h
        refine lv_aload_n S.1 S.2.1 dX0_runTo_17 rfl (lv_at hl 0 rfl) ?_
        refine gDa_left S hK hW dX0_runTo_18 ?_
        refine lv_if_le (tgt := 62) S.1 S.2.1 dX0_runTo_21 (by decide) (fun c_3 => ?_) (fun c_3 => ?_)
        · have h := ite_t c_3 h
          exact wDa_runTo_62 S hK hA hQ δ _ _ _ h hW (lv_sub hl [] rfl)
        · have h := ite_f c_3 h
          refine lv_aload_n S.1 S.2.1 dX0_runTo_24 rfl (lv_at hl 0 rfl) ?_
          refine lv_iload_n S.1 S.2.1 dX0_runTo_25 rfl (lv_at hl 2 rfl) ?_
          obtain ⟨δ_4, hc_5, h⟩ := cl1_some h
          have hW := kw_same hW
          refine kV_v (As := [.int v2]) (rest := []) S hK hA (z := none) trivial [] [] hW (cDa_comeBack l D cs a aR δ ρ v2 N hc_5) (ci := 0) rfl rfl lk_X0_115 q431 q5 ⟨Nat.le_of_ble_eq_true rfl, Nat.le_of_ble_eq_true rfl⟩ rfl (Nat.le_of_ble_eq_true rfl) hl.1 dX0_runTo_26 ⟨Nat.zero_le _, Nat.zero_le _⟩ (fun H locs hW => ?_)
          have hW : Wd D A s.heap (wDa cs a (aR 0) δ_4 ++ (wRo cs aR ρ)) H locs := kw_back hW
          refine lv_aload_n S.1 S.2.1 dX0_runTo_29 rfl (lv_at hl 0 rfl) ?_
          refine lv_iload_n S.1 S.2.1 dX0_runTo_30 rfl (lv_at hl 2 rfl) ?_
          obtain ⟨δ_6, hc_7, h⟩ := cl1_some h
          have hW := kw_same hW
          refine kV_v (As := [.int v2]) (rest := []) S hK hA (z := none) trivial [] [] hW (cDa_freeHeld l D cs a aR δ_4 ρ v2 N hc_7) (ci := 0) rfl rfl lk_X0_119 q443 q7 ⟨Nat.le_of_ble_eq_true rfl, Nat.le_of_ble_eq_true rfl⟩ rfl (Nat.le_of_ble_eq_true rfl) hl.1 dX0_runTo_31 ⟨Nat.zero_le _, Nat.zero_le _⟩ (fun H locs hW => ?_)
          have hW : Wd D A s.heap (wDa cs a (aR 0) δ_6 ++ (wRo cs aR ρ)) H locs := kw_back hW
          refine lv_aload_n S.1 S.2.1 dX0_runTo_34 rfl (lv_at hl 0 rfl) ?_
          refine lv_iload_n S.1 S.2.1 dX0_runTo_35 rfl (lv_at hl 2 rfl) ?_
          obtain ⟨δ_8, hc_9, h⟩ := cl1_some h
          have hW := kw_same hW
          refine kV_v (As := [.int v2]) (rest := []) S hK hA (z := none) trivial [] [] hW (cDa_seekSeats l D cs a aR δ_6 ρ v2 N hc_9) (ci := 0) rfl rfl lk_X0_122 q455 q9 ⟨Nat.le_of_ble_eq_true rfl, Nat.le_of_ble_eq_true rfl⟩ rfl (Nat.le_of_ble_eq_true rfl) hl.1 dX0_runTo_36 ⟨Nat.zero_le _, Nat.zero_le _⟩ (fun H locs hW => ?_)
          have hW : Wd D A s.heap (wDa cs a (aR 0) δ_8 ++ (wRo cs aR ρ)) H locs := kw_back hW
          refine lv_aload_n S.1 S.2.1 dX0_runTo_39 rfl (lv_at hl 0 rfl) ?_
          refine lv_iload_n S.1 S.2.1 dX0_runTo_40 rfl (lv_at hl 2 rfl) ?_
          obtain ⟨δ_10, hc_11, h⟩ := cl1_some h
          have hW := kw_same hW
          refine kV_v (As := [.int v2]) (rest := []) S hK hA (z := none) trivial [] [] hW (cDa_sitOn l D cs a aR δ_8 ρ v2 N hc_11) (ci := 0) rfl rfl lk_X0_125 q478 q12 ⟨Nat.le_of_ble_eq_true rfl, Nat.le_of_ble_eq_true rfl⟩ rfl (Nat.le_of_ble_eq_true rfl) hl.1 dX0_runTo_41 ⟨Nat.zero_le _, Nat.zero_le _⟩ (fun H locs hW => ?_)
          have hW : Wd D A s.heap (wDa cs a (aR 0) δ_10 ++ (wRo cs aR ρ)) H locs := kw_back hW
          refine lv_aload_n S.1 S.2.1 dX0_runTo_44 rfl (lv_at hl 0 rfl) ?_
          refine lv_iload_n S.1 S.2.1 dX0_runTo_45 rfl (lv_at hl 2 rfl) ?_
          obtain ⟨δ_12, hc_13, h⟩ := cl1_some h
          have hW := kw_same hW
          refine kV_v (As := [.int v2]) (rest := []) S hK hA (z := none) trivial [] [] hW (cDa_countSeats l D cs a aR δ_10 ρ v2 N hc_13) (ci := 0) rfl rfl lk_X0_128 q482 q13 ⟨Nat.le_of_ble_eq_true rfl, Nat.le_of_ble_eq_true rfl⟩ rfl (Nat.le_of_ble_eq_true rfl) hl.1 dX0_runTo_46 ⟨Nat.zero_le _, Nat.zero_le _⟩ (fun H locs hW => ?_)
          have hW : Wd D A s.heap (wDa cs a (aR 0) δ_12 ++ (wRo cs aR ρ)) H locs := kw_back hW
          refine lv_aload_n S.1 S.2.1 dX0_runTo_49 rfl (lv_at hl 0 rfl) ?_
          refine lv_iload_n S.1 S.2.1 dX0_runTo_50 rfl (lv_at hl 2 rfl) ?_
          refine lv_iconst (v := 1) S.1 S.2.1 dX0_runTo_51 (by decide) ?_
          refine lv_iadd S.1 S.2.1 dX0_runTo_52 ?_
          refine pDa_ran S hK hW dX0_runTo_53 (fun H locs δ_14 eδ_14 hW => ?_)
          have h := nm_to eδ_14 h
          obtain ⟨x2_15, ex2_15, h⟩ := nm_some h
          refine lv_iinc (v := x2_15) (lv' := [(2, .int x2_15), (0, .ref (a 0)), (1, .int v1)]) S.1 S.2.1 dX0_runTo_56 hl (k := 2) rfl (by rw [ex2_15]; rfl) (by decide) rfl (fun ls hl => ?_)
          refine lv_goto (tgt := 5) S.1 S.2.1 dX0_runTo_59 (by decide) ?_
          exact ih v1 x2_15 δ_14 _ _ _ h hW (lv_sub hl [1, 2, 0] rfl)
set_option maxHeartbeats 4000000 in
set_option maxRecDepth 100000 in
theorem cDa_runTo (l : Launch) (D : va_G) (cs : Nat → ClassId) (a aR : Nat → Nat) (δ : St) (ρ : St) (p0 : Int32) (N : Nat) {δ' : St} (h : fDa_runTo N p0 ρ δ = some δ') : Kv l D cs none yX0_runTo cX0_runTo 3 none 3 72 (wDa cs a (aR 0) δ ++ (wRo cs aR ρ)) [.ref (a 0), .int p0] (wDa cs a (aR 0) δ' ++ (wRo cs aR ρ)) := by
  refine Kv_of (by decide +kernel) (Nat.le_of_ble_eq_true rfl) (fun p e s m below meth c A S hK hA hZ Q hQ ls hl hW => ?_)
  have hl : lv_has ls 3 [(0, .ref (a 0)), (1, .int p0)] := hl
  unfold fDa_runTo at h
  refine lv_aload_n S.1 S.2.1 dX0_runTo_0 rfl (lv_at hl 0 rfl) ?_
  refine gDa_ran S hK hW dX0_runTo_1 ?_
  refine lv_topi (fun x2_16 ex2_16 => ?_)
  have h := nm_to ex2_16 h
  refine lv_istore_n (lv' := [(2, .int x2_16), (0, .ref (a 0)), (1, .int p0)]) S.1 S.2.1 dX0_runTo_4 rfl hl (by decide) rfl (fun ls hl => ?_)
  exact wDa_runTo_5 S hK hA hQ N p0 x2_16 δ _ _ _ h hW (lv_sub hl [1, 2, 0] rfl)
set_option maxHeartbeats 4000000 in
set_option maxRecDepth 100000 in
theorem wDa_sitterOf_23 {p : Program} {l : Launch} {e : Env} {s : State} {m : MethodId} {args : Array Value} {below : List Frame} {meth : Method} {c : Code} {A : Nat → Prop} {Q : State → Prop} {D : va_G} {cs : Nat → ClassId} {a aR : Nat → Nat} {δ : St} {ρ : St} {r : Int32} {N : Nat} (S : Fx p m c cX0_sitterOf 2 s args RX0) (hK : va_K D vwCl (tyL cs) s) (hA : ∀ x, s.heap.size ≤ x → A x) (hQ : ∀ (H : Heap) (locs : List Loc) (pc : Nat) (ls : Array Slot), decode cX0_sitterOf pc = .ok (.ireturn, 1) → narrow .int (.int r) = .int r → Wd D A s.heap (wDa cs a (aR 0) δ ++ (wRo cs aR ρ)) H locs → W p l e { frames := 0, cells := 0, slots := 0, locals := 0 } s m args below meth c H locs 0 0 Q (F0 m pc ls [.int r])) : ∀ (k0 : Int32) (H : Heap) (locs : List Loc) (ls : Array Slot), fDa_sitterOf_23 N δ k0 = some r → Wd D A s.heap (wDa cs a (aR 0) δ ++ (wRo cs aR ρ)) H locs → lv_has ls 2 [] → W p l e { frames := 0, cells := 0, slots := 0, locals := 0 } s m args below meth c H locs 0 0 Q (F0 m 23 ls [.int k0]) := by
  intro k0 H locs ls h hW hl
  unfold fDa_sitterOf_23 at h
  obtain rfl := pr1 h
  exact hQ _ _ _ _ dX0_sitterOf_23 rfl hW
set_option maxHeartbeats 4000000 in
set_option maxRecDepth 100000 in
theorem wDa_sitterOf_22 {p : Program} {l : Launch} {e : Env} {s : State} {m : MethodId} {args : Array Value} {below : List Frame} {meth : Method} {c : Code} {A : Nat → Prop} {Q : State → Prop} {D : va_G} {cs : Nat → ClassId} {a aR : Nat → Nat} {δ : St} {ρ : St} {r : Int32} {N : Nat} (S : Fx p m c cX0_sitterOf 2 s args RX0) (hK : va_K D vwCl (tyL cs) s) (hA : ∀ x, s.heap.size ≤ x → A x) (hQ : ∀ (H : Heap) (locs : List Loc) (pc : Nat) (ls : Array Slot), decode cX0_sitterOf pc = .ok (.ireturn, 1) → narrow .int (.int r) = .int r → Wd D A s.heap (wDa cs a (aR 0) δ ++ (wRo cs aR ρ)) H locs → W p l e { frames := 0, cells := 0, slots := 0, locals := 0 } s m args below meth c H locs 0 0 Q (F0 m pc ls [.int r])) : ∀ (H : Heap) (locs : List Loc) (ls : Array Slot), fDa_sitterOf_22 N δ = some r → Wd D A s.heap (wDa cs a (aR 0) δ ++ (wRo cs aR ρ)) H locs → lv_has ls 2 [] → W p l e { frames := 0, cells := 0, slots := 0, locals := 0 } s m args below meth c H locs 0 0 Q (F0 m 22 ls []) := by
  intro  H locs ls h hW hl
  unfold fDa_sitterOf_22 at h
  refine lv_iconst (v := -1) S.1 S.2.1 dX0_sitterOf_22 (by decide) ?_
  exact wDa_sitterOf_23 S hK hA hQ (-1 : Int32) _ _ _ h hW (lv_sub hl [] rfl)
set_option maxHeartbeats 4000000 in
set_option maxRecDepth 100000 in
theorem cDa_sitterOf (l : Launch) (D : va_G) (cs : Nat → ClassId) (a aR : Nat → Nat) (δ : St) (ρ : St) (p0 : Int32) (N : Nat) {r : Int32} (h : fDa_sitterOf N p0 δ = some r) : Ki l D cs none yX0_sitterOf cX0_sitterOf 2 (some .int) 0 0 (wDa cs a (aR 0) δ ++ (wRo cs aR ρ)) [.ref (a 0), .int p0] r (wDa cs a (aR 0) δ ++ (wRo cs aR ρ)) := by
  refine Ki_of (by decide +kernel) (Nat.le_of_ble_eq_true rfl) (fun p e s m below meth c A S hK hA hZ Q hQ ls hl hW => ?_)
  have hl : lv_has ls 2 [(0, .ref (a 0)), (1, .int p0)] := hl
  unfold fDa_sitterOf at h
  refine lv_iload_n S.1 S.2.1 dX0_sitterOf_0 rfl (lv_at hl 1 rfl) ?_
  refine lv_if_lt (tgt := 22) S.1 S.2.1 dX0_sitterOf_1 (by decide) (fun c_1 => ?_) (fun c_1 => ?_)
  · have h := ite_t c_1 h
    exact wDa_sitterOf_22 S hK hA hQ _ _ _ h hW (lv_sub hl [] rfl)
  · have h := ite_f c_1 h
    refine lv_iload_n S.1 S.2.1 dX0_sitterOf_4 rfl (lv_at hl 1 rfl) ?_
    refine lv_aload_n S.1 S.2.1 dX0_sitterOf_5 rfl (lv_at hl 0 rfl) ?_
    refine gDa_sitters S hK hW dX0_sitterOf_6 ?_
    refine nDa_sitters S hK hW dX0_sitterOf_9 ?_
    refine lv_icmp_ge (tgt := 22) S.1 S.2.1 dX0_sitterOf_10 (by decide) (fun c_2 => ?_) (fun c_2 => ?_)
    · have h := ite_t c_2 h
      exact wDa_sitterOf_22 S hK hA hQ _ _ _ h hW (lv_sub hl [] rfl)
    · have h := ite_f c_2 h
      refine lv_aload_n S.1 S.2.1 dX0_sitterOf_13 rfl (lv_at hl 0 rfl) ?_
      refine gDa_sitters S hK hW dX0_sitterOf_14 ?_
      refine lv_iload_n S.1 S.2.1 dX0_sitterOf_17 rfl (lv_at hl 1 rfl) ?_
      obtain ⟨hi_3, h⟩ := gI_some h
      refine lDa_sitters S hK hW hi_3 dX0_sitterOf_18 ?_
      refine lv_goto (tgt := 23) S.1 S.2.1 dX0_sitterOf_19 (by decide) ?_
      exact wDa_sitterOf_23 S hK hA hQ (δ 6 p0.toNatClampNeg) _ _ _ h hW (lv_sub hl [] rfl)
set_option maxHeartbeats 4000000 in
set_option maxRecDepth 100000 in
theorem wDa_stateOf_23 {p : Program} {l : Launch} {e : Env} {s : State} {m : MethodId} {args : Array Value} {below : List Frame} {meth : Method} {c : Code} {A : Nat → Prop} {Q : State → Prop} {D : va_G} {cs : Nat → ClassId} {a aR : Nat → Nat} {δ : St} {ρ : St} {r : Int32} {N : Nat} (S : Fx p m c cX0_stateOf 2 s args RX0) (hK : va_K D vwCl (tyL cs) s) (hA : ∀ x, s.heap.size ≤ x → A x) (hQ : ∀ (H : Heap) (locs : List Loc) (pc : Nat) (ls : Array Slot), decode cX0_stateOf pc = .ok (.ireturn, 1) → narrow .int (.int r) = .int r → Wd D A s.heap (wDa cs a (aR 0) δ ++ (wRo cs aR ρ)) H locs → W p l e { frames := 0, cells := 0, slots := 0, locals := 0 } s m args below meth c H locs 0 0 Q (F0 m pc ls [.int r])) : ∀ (k0 : Int32) (H : Heap) (locs : List Loc) (ls : Array Slot), fDa_stateOf_23 N δ k0 = some r → Wd D A s.heap (wDa cs a (aR 0) δ ++ (wRo cs aR ρ)) H locs → lv_has ls 2 [] → W p l e { frames := 0, cells := 0, slots := 0, locals := 0 } s m args below meth c H locs 0 0 Q (F0 m 23 ls [.int k0]) := by
  intro k0 H locs ls h hW hl
  unfold fDa_stateOf_23 at h
  obtain rfl := pr1 h
  exact hQ _ _ _ _ dX0_stateOf_23 rfl hW
set_option maxHeartbeats 4000000 in
set_option maxRecDepth 100000 in
theorem wDa_stateOf_22 {p : Program} {l : Launch} {e : Env} {s : State} {m : MethodId} {args : Array Value} {below : List Frame} {meth : Method} {c : Code} {A : Nat → Prop} {Q : State → Prop} {D : va_G} {cs : Nat → ClassId} {a aR : Nat → Nat} {δ : St} {ρ : St} {r : Int32} {N : Nat} (S : Fx p m c cX0_stateOf 2 s args RX0) (hK : va_K D vwCl (tyL cs) s) (hA : ∀ x, s.heap.size ≤ x → A x) (hQ : ∀ (H : Heap) (locs : List Loc) (pc : Nat) (ls : Array Slot), decode cX0_stateOf pc = .ok (.ireturn, 1) → narrow .int (.int r) = .int r → Wd D A s.heap (wDa cs a (aR 0) δ ++ (wRo cs aR ρ)) H locs → W p l e { frames := 0, cells := 0, slots := 0, locals := 0 } s m args below meth c H locs 0 0 Q (F0 m pc ls [.int r])) : ∀ (H : Heap) (locs : List Loc) (ls : Array Slot), fDa_stateOf_22 N δ = some r → Wd D A s.heap (wDa cs a (aR 0) δ ++ (wRo cs aR ρ)) H locs → lv_has ls 2 [] → W p l e { frames := 0, cells := 0, slots := 0, locals := 0 } s m args below meth c H locs 0 0 Q (F0 m 22 ls []) := by
  intro  H locs ls h hW hl
  unfold fDa_stateOf_22 at h
  refine lv_iconst (v := 0) S.1 S.2.1 dX0_stateOf_22 (by decide) ?_
  exact wDa_stateOf_23 S hK hA hQ (0 : Int32) _ _ _ h hW (lv_sub hl [] rfl)
set_option maxHeartbeats 4000000 in
set_option maxRecDepth 100000 in
theorem cDa_stateOf (l : Launch) (D : va_G) (cs : Nat → ClassId) (a aR : Nat → Nat) (δ : St) (ρ : St) (p0 : Int32) (N : Nat) {r : Int32} (h : fDa_stateOf N p0 δ = some r) : Ki l D cs none yX0_stateOf cX0_stateOf 2 (some .int) 0 0 (wDa cs a (aR 0) δ ++ (wRo cs aR ρ)) [.ref (a 0), .int p0] r (wDa cs a (aR 0) δ ++ (wRo cs aR ρ)) := by
  refine Ki_of (by decide +kernel) (Nat.le_of_ble_eq_true rfl) (fun p e s m below meth c A S hK hA hZ Q hQ ls hl hW => ?_)
  have hl : lv_has ls 2 [(0, .ref (a 0)), (1, .int p0)] := hl
  unfold fDa_stateOf at h
  refine lv_iload_n S.1 S.2.1 dX0_stateOf_0 rfl (lv_at hl 1 rfl) ?_
  refine lv_if_lt (tgt := 22) S.1 S.2.1 dX0_stateOf_1 (by decide) (fun c_1 => ?_) (fun c_1 => ?_)
  · have h := ite_t c_1 h
    exact wDa_stateOf_22 S hK hA hQ _ _ _ h hW (lv_sub hl [] rfl)
  · have h := ite_f c_1 h
    refine lv_iload_n S.1 S.2.1 dX0_stateOf_4 rfl (lv_at hl 1 rfl) ?_
    refine lv_aload_n S.1 S.2.1 dX0_stateOf_5 rfl (lv_at hl 0 rfl) ?_
    refine gDa_states S hK hW dX0_stateOf_6 ?_
    refine nDa_states S hK hW dX0_stateOf_9 ?_
    refine lv_icmp_ge (tgt := 22) S.1 S.2.1 dX0_stateOf_10 (by decide) (fun c_2 => ?_) (fun c_2 => ?_)
    · have h := ite_t c_2 h
      exact wDa_stateOf_22 S hK hA hQ _ _ _ h hW (lv_sub hl [] rfl)
    · have h := ite_f c_2 h
      refine lv_aload_n S.1 S.2.1 dX0_stateOf_13 rfl (lv_at hl 0 rfl) ?_
      refine gDa_states S hK hW dX0_stateOf_14 ?_
      refine lv_iload_n S.1 S.2.1 dX0_stateOf_17 rfl (lv_at hl 1 rfl) ?_
      obtain ⟨hi_3, h⟩ := gI_some h
      refine lDa_states S hK hW hi_3 dX0_stateOf_18 ?_
      refine lv_goto (tgt := 23) S.1 S.2.1 dX0_stateOf_19 (by decide) ?_
      exact wDa_stateOf_23 S hK hA hQ (δ 1 p0.toNatClampNeg) _ _ _ h hW (lv_sub hl [] rfl)
set_option maxHeartbeats 4000000 in
set_option maxRecDepth 100000 in
theorem wDa_minutesOf_23 {p : Program} {l : Launch} {e : Env} {s : State} {m : MethodId} {args : Array Value} {below : List Frame} {meth : Method} {c : Code} {A : Nat → Prop} {Q : State → Prop} {D : va_G} {cs : Nat → ClassId} {a aR : Nat → Nat} {δ : St} {ρ : St} {r : Int32} {N : Nat} (S : Fx p m c cX0_minutesOf 2 s args RX0) (hK : va_K D vwCl (tyL cs) s) (hA : ∀ x, s.heap.size ≤ x → A x) (hQ : ∀ (H : Heap) (locs : List Loc) (pc : Nat) (ls : Array Slot), decode cX0_minutesOf pc = .ok (.ireturn, 1) → narrow .int (.int r) = .int r → Wd D A s.heap (wDa cs a (aR 0) δ ++ (wRo cs aR ρ)) H locs → W p l e { frames := 0, cells := 0, slots := 0, locals := 0 } s m args below meth c H locs 0 0 Q (F0 m pc ls [.int r])) : ∀ (k0 : Int32) (H : Heap) (locs : List Loc) (ls : Array Slot), fDa_minutesOf_23 N δ k0 = some r → Wd D A s.heap (wDa cs a (aR 0) δ ++ (wRo cs aR ρ)) H locs → lv_has ls 2 [] → W p l e { frames := 0, cells := 0, slots := 0, locals := 0 } s m args below meth c H locs 0 0 Q (F0 m 23 ls [.int k0]) := by
  intro k0 H locs ls h hW hl
  unfold fDa_minutesOf_23 at h
  obtain rfl := pr1 h
  exact hQ _ _ _ _ dX0_minutesOf_23 rfl hW
set_option maxHeartbeats 4000000 in
set_option maxRecDepth 100000 in
theorem wDa_minutesOf_22 {p : Program} {l : Launch} {e : Env} {s : State} {m : MethodId} {args : Array Value} {below : List Frame} {meth : Method} {c : Code} {A : Nat → Prop} {Q : State → Prop} {D : va_G} {cs : Nat → ClassId} {a aR : Nat → Nat} {δ : St} {ρ : St} {r : Int32} {N : Nat} (S : Fx p m c cX0_minutesOf 2 s args RX0) (hK : va_K D vwCl (tyL cs) s) (hA : ∀ x, s.heap.size ≤ x → A x) (hQ : ∀ (H : Heap) (locs : List Loc) (pc : Nat) (ls : Array Slot), decode cX0_minutesOf pc = .ok (.ireturn, 1) → narrow .int (.int r) = .int r → Wd D A s.heap (wDa cs a (aR 0) δ ++ (wRo cs aR ρ)) H locs → W p l e { frames := 0, cells := 0, slots := 0, locals := 0 } s m args below meth c H locs 0 0 Q (F0 m pc ls [.int r])) : ∀ (H : Heap) (locs : List Loc) (ls : Array Slot), fDa_minutesOf_22 N δ = some r → Wd D A s.heap (wDa cs a (aR 0) δ ++ (wRo cs aR ρ)) H locs → lv_has ls 2 [] → W p l e { frames := 0, cells := 0, slots := 0, locals := 0 } s m args below meth c H locs 0 0 Q (F0 m 22 ls []) := by
  intro  H locs ls h hW hl
  unfold fDa_minutesOf_22 at h
  refine lv_iconst (v := 0) S.1 S.2.1 dX0_minutesOf_22 (by decide) ?_
  exact wDa_minutesOf_23 S hK hA hQ (0 : Int32) _ _ _ h hW (lv_sub hl [] rfl)
set_option maxHeartbeats 4000000 in
set_option maxRecDepth 100000 in
theorem cDa_minutesOf (l : Launch) (D : va_G) (cs : Nat → ClassId) (a aR : Nat → Nat) (δ : St) (ρ : St) (p0 : Int32) (N : Nat) {r : Int32} (h : fDa_minutesOf N p0 δ = some r) : Ki l D cs none yX0_minutesOf cX0_minutesOf 2 (some .int) 0 0 (wDa cs a (aR 0) δ ++ (wRo cs aR ρ)) [.ref (a 0), .int p0] r (wDa cs a (aR 0) δ ++ (wRo cs aR ρ)) := by
  refine Ki_of (by decide +kernel) (Nat.le_of_ble_eq_true rfl) (fun p e s m below meth c A S hK hA hZ Q hQ ls hl hW => ?_)
  have hl : lv_has ls 2 [(0, .ref (a 0)), (1, .int p0)] := hl
  unfold fDa_minutesOf at h
  refine lv_iload_n S.1 S.2.1 dX0_minutesOf_0 rfl (lv_at hl 1 rfl) ?_
  refine lv_if_lt (tgt := 22) S.1 S.2.1 dX0_minutesOf_1 (by decide) (fun c_1 => ?_) (fun c_1 => ?_)
  · have h := ite_t c_1 h
    exact wDa_minutesOf_22 S hK hA hQ _ _ _ h hW (lv_sub hl [] rfl)
  · have h := ite_f c_1 h
    refine lv_iload_n S.1 S.2.1 dX0_minutesOf_4 rfl (lv_at hl 1 rfl) ?_
    refine lv_aload_n S.1 S.2.1 dX0_minutesOf_5 rfl (lv_at hl 0 rfl) ?_
    refine gDa_minutesSat S hK hW dX0_minutesOf_6 ?_
    refine nDa_minutesSat S hK hW dX0_minutesOf_9 ?_
    refine lv_icmp_ge (tgt := 22) S.1 S.2.1 dX0_minutesOf_10 (by decide) (fun c_2 => ?_) (fun c_2 => ?_)
    · have h := ite_t c_2 h
      exact wDa_minutesOf_22 S hK hA hQ _ _ _ h hW (lv_sub hl [] rfl)
    · have h := ite_f c_2 h
      refine lv_aload_n S.1 S.2.1 dX0_minutesOf_13 rfl (lv_at hl 0 rfl) ?_
      refine gDa_minutesSat S hK hW dX0_minutesOf_14 ?_
      refine lv_iload_n S.1 S.2.1 dX0_minutesOf_17 rfl (lv_at hl 1 rfl) ?_
      obtain ⟨hi_3, h⟩ := gI_some h
      refine lDa_minutesSat S hK hW hi_3 dX0_minutesOf_18 ?_
      refine lv_goto (tgt := 23) S.1 S.2.1 dX0_minutesOf_19 (by decide) ?_
      exact wDa_minutesOf_23 S hK hA hQ (δ 4 p0.toNatClampNeg) _ _ _ h hW (lv_sub hl [] rfl)
set_option maxHeartbeats 4000000 in
set_option maxRecDepth 100000 in
theorem wDa_seenEvery_32 {p : Program} {l : Launch} {e : Env} {s : State} {m : MethodId} {args : Array Value} {below : List Frame} {meth : Method} {c : Code} {A : Nat → Prop} {Q : State → Prop} {D : va_G} {cs : Nat → ClassId} {a aR : Nat → Nat} {δ : St} {ρ : St} {r : Int32} {N : Nat} (S : Fx p m c cX0_seenEvery 4 s args RX0) (hK : va_K D vwCl (tyL cs) s) (hA : ∀ x, s.heap.size ≤ x → A x) (hQ : ∀ (H : Heap) (locs : List Loc) (pc : Nat) (ls : Array Slot), decode cX0_seenEvery pc = .ok (.ireturn, 1) → narrow .int (.int r) = .int r → Wd D A s.heap (wDa cs a (aR 0) δ ++ (wRo cs aR ρ)) H locs → W p l e { frames := 0, cells := 0, slots := 0, locals := 0 } s m args below meth c H locs 0 0 Q (F0 m pc ls [.int r])) : ∀ (v1 : Int32) (v2 : Int32) (H : Heap) (locs : List Loc) (ls : Array Slot), fDa_seenEvery_32 N δ v1 v2 = some r → Wd D A s.heap (wDa cs a (aR 0) δ ++ (wRo cs aR ρ)) H locs → lv_has ls 4 [(1, .int v1), (2, .int v2)] → W p l e { frames := 0, cells := 0, slots := 0, locals := 0 } s m args below meth c H locs 0 0 Q (F0 m 32 ls []) := by
  intro v1 v2 H locs ls h hW hl
  unfold fDa_seenEvery_32 at h
  refine lv_iload_n S.1 S.2.1 dX0_seenEvery_32 rfl (lv_at hl 1 rfl) ?_
  refine lv_iload_n S.1 S.2.1 dX0_seenEvery_33 rfl (lv_at hl 0 rfl) ?_
  refine lv_imul S.1 S.2.1 dX0_seenEvery_34 ?_
  obtain rfl := pr1 h
  exact hQ _ _ _ _ dX0_seenEvery_35 rfl hW
set_option maxHeartbeats 4000000 in
set_option maxRecDepth 100000 in
theorem wDa_seenEvery_4 {p : Program} {l : Launch} {e : Env} {s : State} {m : MethodId} {args : Array Value} {below : List Frame} {meth : Method} {c : Code} {A : Nat → Prop} {Q : State → Prop} {D : va_G} {cs : Nat → ClassId} {a aR : Nat → Nat} {δ : St} {ρ : St} {r : Int32} {N : Nat} (S : Fx p m c cX0_seenEvery 4 s args RX0) (hK : va_K D vwCl (tyL cs) s) (hA : ∀ x, s.heap.size ≤ x → A x) (hQ : ∀ (H : Heap) (locs : List Loc) (pc : Nat) (ls : Array Slot), decode cX0_seenEvery pc = .ok (.ireturn, 1) → narrow .int (.int r) = .int r → Wd D A s.heap (wDa cs a (aR 0) δ ++ (wRo cs aR ρ)) H locs → W p l e { frames := 0, cells := 0, slots := 0, locals := 0 } s m args below meth c H locs 0 0 Q (F0 m pc ls [.int r])) : ∀ (n_4 : Nat) (v1 : Int32) (v2 : Int32) (v3 : Int32) (H : Heap) (locs : List Loc) (ls : Array Slot), fDa_seenEvery_4 N δ n_4 v1 v2 v3 = some r → Wd D A s.heap (wDa cs a (aR 0) δ ++ (wRo cs aR ρ)) H locs → lv_has ls 4 [(0, .ref (a 0)), (1, .int v1), (2, .int v2), (3, .int v3)] → W p l e { frames := 0, cells := 0, slots := 0, locals := 0 } s m args below meth c H locs 0 0 Q (F0 m 4 ls []) := by
  intro n_4
  induction n_4 with
  | zero =>
    intro v1 v2 v3 H locs ls h
    cases h
  | succ n_4 ih =>
    intro v1 v2 v3 H locs ls h hW hl
    unfold fDa_seenEvery_4 at h
    refine lv_iload_n S.1 S.2.1 dX0_seenEvery_4 rfl (lv_at hl 3 rfl) ?_
    refine lv_aload_n S.1 S.2.1 dX0_seenEvery_5 rfl (lv_at hl 0 rfl) ?_
    refine gDa_ran S hK hW dX0_seenEvery_6 ?_
    refine lv_icmp_ge (tgt := 32) S.1 S.2.1 dX0_seenEvery_9 (by decide) (fun c_1 => ?_) (fun c_1 => ?_)
    · have h := ite_t c_1 h
      exact wDa_seenEvery_32 S hK hA hQ v1 v2 _ _ _ h hW (lv_sub hl [1, 2] rfl)
    · have h := ite_f c_1 h
      refine lv_iload_n S.1 S.2.1 dX0_seenEvery_12 rfl (lv_at hl 1 rfl) ?_
      refine lv_if_le (tgt := 32) S.1 S.2.1 dX0_seenEvery_13 (by decide) (fun c_2 => ?_) (fun c_2 => ?_)
      · have h := ite_t c_2 h
        exact wDa_seenEvery_32 S hK hA hQ v1 v2 _ _ _ h hW (lv_sub hl [1, 2] rfl)
      · have h := ite_f c_2 h
        refine lv_iload_n S.1 S.2.1 dX0_seenEvery_16 rfl (lv_at hl 2 rfl) ?_
        refine lv_aload_n S.1 S.2.1 dX0_seenEvery_17 rfl (lv_at hl 0 rfl) ?_
        refine gDa_sitting S hK hW dX0_seenEvery_18 ?_
        refine lv_iload_n S.1 S.2.1 dX0_seenEvery_21 rfl (lv_at hl 3 rfl) ?_
        obtain ⟨hi_3, h⟩ := gI_some h
        refine lDa_sitting S hK hW hi_3 dX0_seenEvery_22 ?_
        refine lv_iadd S.1 S.2.1 dX0_seenEvery_23 ?_
        refine lv_topi (fun x2_4 ex2_4 => ?_)
        have h := nm_to ex2_4 h
        refine lv_istore_n (lv' := [(2, .int x2_4), (0, .ref (a 0)), (1, .int v1), (3, .int v3)]) S.1 S.2.1 dX0_seenEvery_24 rfl hl (by decide) rfl (fun ls hl => ?_)
        refine lv_iload_n S.1 S.2.1 dX0_seenEvery_25 rfl (lv_at hl 3 rfl) ?_
        refine lv_iload_n S.1 S.2.1 dX0_seenEvery_26 rfl (lv_at hl 2 rfl) ?_
        refine lv_iadd S.1 S.2.1 dX0_seenEvery_27 ?_
        refine lv_topi (fun x3_5 ex3_5 => ?_)
        have h := nm_to ex3_5 h
        refine lv_istore_n (lv' := [(3, .int x3_5), (2, .int x2_4), (0, .ref (a 0)), (1, .int v1)]) S.1 S.2.1 dX0_seenEvery_28 rfl hl (by decide) rfl (fun ls hl => ?_)
        refine lv_goto (tgt := 4) S.1 S.2.1 dX0_seenEvery_29 (by decide) ?_
        exact ih v1 x2_4 x3_5 _ _ _ h hW (lv_sub hl [2, 3, 1, 0] rfl)
set_option maxHeartbeats 4000000 in
set_option maxRecDepth 100000 in
theorem cDa_seenEvery (l : Launch) (D : va_G) (cs : Nat → ClassId) (a aR : Nat → Nat) (δ : St) (ρ : St) (p0 : Int32) (N : Nat) {r : Int32} (h : fDa_seenEvery N p0 δ = some r) : Ki l D cs none yX0_seenEvery cX0_seenEvery 4 (some .int) 0 0 (wDa cs a (aR 0) δ ++ (wRo cs aR ρ)) [.ref (a 0), .int p0] r (wDa cs a (aR 0) δ ++ (wRo cs aR ρ)) := by
  refine Ki_of (by decide +kernel) (Nat.le_of_ble_eq_true rfl) (fun p e s m below meth c A S hK hA hZ Q hQ ls hl hW => ?_)
  have hl : lv_has ls 4 [(0, .ref (a 0)), (1, .int p0)] := hl
  unfold fDa_seenEvery at h
  refine lv_iconst (v := 0) S.1 S.2.1 dX0_seenEvery_0 (by decide) ?_
  refine lv_istore_n (lv' := [(2, .int (0 : Int32)), (0, .ref (a 0)), (1, .int p0)]) S.1 S.2.1 dX0_seenEvery_1 rfl hl (by decide) rfl (fun ls hl => ?_)
  refine lv_iconst (v := 0) S.1 S.2.1 dX0_seenEvery_2 (by decide) ?_
  refine lv_istore_n (lv' := [(3, .int (0 : Int32)), (2, .int (0 : Int32)), (0, .ref (a 0)), (1, .int p0)]) S.1 S.2.1 dX0_seenEvery_3 rfl hl (by decide) rfl (fun ls hl => ?_)
  exact wDa_seenEvery_4 S hK hA hQ N p0 (0 : Int32) (0 : Int32) _ _ _ h hW (lv_sub hl [2, 3, 1, 0] rfl)
set_option maxHeartbeats 4000000 in
set_option maxRecDepth 100000 in
theorem cDa_used (l : Launch) (D : va_G) (cs : Nat → ClassId) (a aR : Nat → Nat) (δ : St) (ρ : St) (N : Nat) {r : Int32} (h : fDa_used N δ = some r) : Ki l D cs none yX0_used cX0_used 1 (some .int) 1 23 (wDa cs a (aR 0) δ ++ (wRo cs aR ρ)) [.ref (a 0)] r (wDa cs a (aR 0) δ ++ (wRo cs aR ρ)) := by
  refine Ki_of (by decide +kernel) (Nat.le_of_ble_eq_true rfl) (fun p e s m below meth c A S hK hA hZ Q hQ ls hl hW => ?_)
  have hl : lv_has ls 1 [(0, .ref (a 0))] := hl
  unfold fDa_used at h
  refine lv_aload_n S.1 S.2.1 dX0_used_0 rfl (lv_at hl 0 rfl) ?_
  refine lv_iconst (v := 1) S.1 S.2.1 dX0_used_1 (by decide) ?_
  obtain ⟨r_1, hc_2, h⟩ := cl1_some h
  have hW := kw_same hW
  refine kV_i (As := [.int (1 : Int32)]) (rest := []) S hK hA (z := none) trivial [] [] hW (cDa_seenEvery l D cs a aR δ ρ (1 : Int32) N hc_2) (ci := 0) rfl rfl lk_X0_161 q510 q511 ⟨Nat.le_of_ble_eq_true rfl, Nat.le_of_ble_eq_true rfl⟩ rfl (Nat.le_of_ble_eq_true rfl) hl.1 dX0_used_2 ⟨Nat.zero_le _, Nat.zero_le _⟩ (fun H locs hW => ?_)
  have hW : Wd D A s.heap (wDa cs a (aR 0) δ ++ (wRo cs aR ρ)) H locs := kw_back hW
  obtain rfl := pr1 h
  exact hQ _ _ _ _ dX0_used_5 rfl hW
set_option maxHeartbeats 4000000 in
set_option maxRecDepth 100000 in
theorem cDa_empty (l : Launch) (D : va_G) (cs : Nat → ClassId) (a aR : Nat → Nat) (δ : St) (ρ : St) (N : Nat) {r : Int32} (h : fDa_empty N δ = some r) : Ki l D cs none yX0_empty cX0_empty 1 (some .int) 0 0 (wDa cs a (aR 0) δ ++ (wRo cs aR ρ)) [.ref (a 0)] r (wDa cs a (aR 0) δ ++ (wRo cs aR ρ)) := by
  refine Ki_of (by decide +kernel) (Nat.le_of_ble_eq_true rfl) (fun p e s m below meth c A S hK hA hZ Q hQ ls hl hW => ?_)
  have hl : lv_has ls 1 [(0, .ref (a 0))] := hl
  unfold fDa_empty at h
  refine lv_aload_n S.1 S.2.1 dX0_empty_0 rfl (lv_at hl 0 rfl) ?_
  refine gDa_empty S hK hW dX0_empty_1 ?_
  obtain rfl := pr1 h
  exact hQ _ _ _ _ dX0_empty_4 rfl hW
set_option maxHeartbeats 4000000 in
set_option maxRecDepth 100000 in
theorem cDa_shutOut (l : Launch) (D : va_G) (cs : Nat → ClassId) (a aR : Nat → Nat) (δ : St) (ρ : St) (N : Nat) {r : Int32} (h : fDa_shutOut N δ = some r) : Ki l D cs none yX0_shutOut cX0_shutOut 1 (some .int) 0 0 (wDa cs a (aR 0) δ ++ (wRo cs aR ρ)) [.ref (a 0)] r (wDa cs a (aR 0) δ ++ (wRo cs aR ρ)) := by
  refine Ki_of (by decide +kernel) (Nat.le_of_ble_eq_true rfl) (fun p e s m below meth c A S hK hA hZ Q hQ ls hl hW => ?_)
  have hl : lv_has ls 1 [(0, .ref (a 0))] := hl
  unfold fDa_shutOut at h
  refine lv_aload_n S.1 S.2.1 dX0_shutOut_0 rfl (lv_at hl 0 rfl) ?_
  refine gDa_shutOut S hK hW dX0_shutOut_1 ?_
  obtain rfl := pr1 h
  exact hQ _ _ _ _ dX0_shutOut_4 rfl hW
set_option maxHeartbeats 4000000 in
set_option maxRecDepth 100000 in
theorem cDa_thrownOut (l : Launch) (D : va_G) (cs : Nat → ClassId) (a aR : Nat → Nat) (δ : St) (ρ : St) (N : Nat) {r : Int32} (h : fDa_thrownOut N δ = some r) : Ki l D cs none yX0_thrownOut cX0_thrownOut 1 (some .int) 0 0 (wDa cs a (aR 0) δ ++ (wRo cs aR ρ)) [.ref (a 0)] r (wDa cs a (aR 0) δ ++ (wRo cs aR ρ)) := by
  refine Ki_of (by decide +kernel) (Nat.le_of_ble_eq_true rfl) (fun p e s m below meth c A S hK hA hZ Q hQ ls hl hW => ?_)
  have hl : lv_has ls 1 [(0, .ref (a 0))] := hl
  unfold fDa_thrownOut at h
  refine lv_aload_n S.1 S.2.1 dX0_thrownOut_0 rfl (lv_at hl 0 rfl) ?_
  refine gDa_thrownOut S hK hW dX0_thrownOut_1 ?_
  obtain rfl := pr1 h
  exact hQ _ _ _ _ dX0_thrownOut_4 rfl hW
set_option maxHeartbeats 4000000 in
set_option maxRecDepth 100000 in
theorem wDa_packedMinutes_5 {p : Program} {l : Launch} {e : Env} {s : State} {m : MethodId} {args : Array Value} {below : List Frame} {meth : Method} {c : Code} {A : Nat → Prop} {Q : State → Prop} {D : va_G} {cs : Nat → ClassId} {a aR : Nat → Nat} {δ : St} {ρ : St} {r : Int64} {N : Nat} (S : Fx p m c cX0_packedMinutes 4 s args RX0) (hK : va_K D vwCl (tyL cs) s) (hA : ∀ x, s.heap.size ≤ x → A x) (hQ : ∀ (H : Heap) (locs : List Loc) (pc : Nat) (ls : Array Slot), decode cX0_packedMinutes pc = .ok (.lreturn, 1) → Wd D A s.heap (wDa cs a (aR 0) δ ++ (wRo cs aR ρ)) H locs → W p l e { frames := 0, cells := 0, slots := 0, locals := 0 } s m args below meth c H locs 0 0 Q (F0 m pc ls [.long r])) : ∀ (n_5 : Nat) (v1 : Int64) (v3 : Int32) (H : Heap) (locs : List Loc) (ls : Array Slot), fDa_packedMinutes_5 N δ n_5 v1 v3 = some r → Wd D A s.heap (wDa cs a (aR 0) δ ++ (wRo cs aR ρ)) H locs → lv_has ls 4 [(0, .ref (a 0)), (1, .long v1), (3, .int v3)] → W p l e { frames := 0, cells := 0, slots := 0, locals := 0 } s m args below meth c H locs 0 0 Q (F0 m 5 ls []) := by
  intro n_5
  induction n_5 with
  | zero =>
    intro v1 v3 H locs ls h
    cases h
  | succ n_5 ih =>
    intro v1 v3 H locs ls h hW hl
    unfold fDa_packedMinutes_5 at h
    refine lv_iload_n S.1 S.2.1 dX0_packedMinutes_5 rfl (lv_at hl 2 rfl) ?_
    refine lv_if_lt (tgt := 28) S.1 S.2.1 dX0_packedMinutes_6 (by decide) (fun c_1 => ?_) (fun c_1 => ?_)
    · have h := ite_t c_1 h
      refine lv_lload_n S.1 S.2.1 dX0_packedMinutes_28 rfl (lv_at hl 1 rfl) ?_
      obtain rfl := pr1 h
      exact hQ _ _ _ _ dX0_packedMinutes_29 hW
    · have h := ite_f c_1 h
      refine lv_lload_n S.1 S.2.1 dX0_packedMinutes_9 rfl (lv_at hl 1 rfl) ?_
      refine lv_bipush (v := 8) S.1 S.2.1 dX0_packedMinutes_10 (by decide) ?_
      refine lv_lshl S.1 S.2.1 dX0_packedMinutes_12 rfl ?_
      refine lv_aload_n S.1 S.2.1 dX0_packedMinutes_13 rfl (lv_at hl 0 rfl) ?_
      refine gDa_minutesSat S hK hW dX0_packedMinutes_14 ?_
      refine lv_iload_n S.1 S.2.1 dX0_packedMinutes_17 rfl (lv_at hl 2 rfl) ?_
      obtain ⟨hi_2, h⟩ := gI_some h
      refine lDa_minutesSat S hK hW hi_2 dX0_packedMinutes_18 ?_
      refine lv_i2l S.1 S.2.1 dX0_packedMinutes_19 rfl ?_
      refine lv_lor S.1 S.2.1 dX0_packedMinutes_20 ?_
      refine lv_topl (fun x1_3 ex1_3 => ?_)
      have h := nm_to ex1_3 h
      refine lv_lstore_n (lv' := [(1, .long x1_3), (0, .ref (a 0)), (3, .int v3)]) S.1 S.2.1 dX0_packedMinutes_21 rfl hl (by decide) rfl (fun ls hl => ?_)
      obtain ⟨x3_4, ex3_4, h⟩ := nm_some h
      refine lv_iinc (v := x3_4) (lv' := [(3, .int x3_4), (1, .long x1_3), (0, .ref (a 0))]) S.1 S.2.1 dX0_packedMinutes_22 hl (k := 2) rfl (by rw [ex3_4]; rfl) (by decide) rfl (fun ls hl => ?_)
      refine lv_goto (tgt := 5) S.1 S.2.1 dX0_packedMinutes_25 (by decide) ?_
      exact ih x1_3 x3_4 _ _ _ h hW (lv_sub hl [2, 1, 0] rfl)
set_option maxHeartbeats 4000000 in
set_option maxRecDepth 100000 in
theorem cDa_packedMinutes (l : Launch) (D : va_G) (cs : Nat → ClassId) (a aR : Nat → Nat) (δ : St) (ρ : St) (N : Nat) {r : Int64} (h : fDa_packedMinutes N δ = some r) : Kl l D cs none yX0_packedMinutes cX0_packedMinutes 4 (some .long) 0 0 (wDa cs a (aR 0) δ ++ (wRo cs aR ρ)) [.ref (a 0)] r (wDa cs a (aR 0) δ ++ (wRo cs aR ρ)) := by
  refine Kl_of (by decide +kernel) (Nat.le_of_ble_eq_true rfl) (fun p e s m below meth c A S hK hA hZ Q hQ ls hl hW => ?_)
  have hl : lv_has ls 4 [(0, .ref (a 0))] := hl
  unfold fDa_packedMinutes at h
  refine lv_lconst (v := 0) S.1 S.2.1 dX0_packedMinutes_0 (by decide) ?_
  refine lv_lstore_n (lv' := [(1, .long (0 : Int64)), (0, .ref (a 0))]) S.1 S.2.1 dX0_packedMinutes_1 rfl hl (by decide) rfl (fun ls hl => ?_)
  refine lv_bipush (v := 7) S.1 S.2.1 dX0_packedMinutes_2 (by decide) ?_
  refine lv_istore_n (lv' := [(3, .int (7 : Int32)), (1, .long (0 : Int64)), (0, .ref (a 0))]) S.1 S.2.1 dX0_packedMinutes_4 rfl hl (by decide) rfl (fun ls hl => ?_)
  exact wDa_packedMinutes_5 S hK hA hQ N (0 : Int64) (7 : Int32) _ _ _ h hW (lv_sub hl [2, 1, 0] rfl)
