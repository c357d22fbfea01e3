set_option maxHeartbeats 4000000 in
set_option maxRecDepth 100000 in
theorem cMo_back (l : Launch) (D : va_G) (cs : Nat → ClassId) (a : Nat → Nat) (σ : St) (Λ : Nat → Int64) (N : Nat) {r : Int32} {σ' : St} (h : fMo_back N σ = some (r, σ')) : Ki l D cs none yX7_back cX7_back 1 (some .int) 0 0 (wMo cs a σ Λ) [.ref (a 0)] r (wMo cs a σ' Λ) := by
  refine Ki_of (by decide +kernel) (Nat.le_of_ble_eq_true rfl) (fun p e s m below meth c A S hK hA hZ Q hQ ls hl hW => ?_)
  have hl : lv_has ls 1 [(0, .ref (a 0))] := hl
  unfold fMo_back at h
  refine lv_aload_n S.1 S.2.1 dX7_back_0 rfl (lv_at hl 0 rfl) ?_
  refine gMo_kept S hK hW dX7_back_1 ?_
  refine lv_if_ne (tgt := 10) S.1 S.2.1 dX7_back_4 (by decide) (fun c_1 => ?_) (fun c_1 => ?_)
  · have h := ite_f c_1 h
    refine lv_aload_n S.1 S.2.1 dX7_back_10 rfl (lv_at hl 0 rfl) ?_
    refine lv_dup S.1 S.2.1 dX7_back_11 rfl ?_
    refine gMo_kept S hK hW dX7_back_12 ?_
    refine lv_iconst (v := 1) S.1 S.2.1 dX7_back_15 (by decide) ?_
    refine lv_isub S.1 S.2.1 dX7_back_16 ?_
    refine pMo_kept S hK hW dX7_back_17 (fun H locs σ_2 eσ_2 hW => ?_)
    have h := nm_to eσ_2 h
    refine lv_aload_n S.1 S.2.1 dX7_back_20 rfl (lv_at hl 0 rfl) ?_
    refine lv_aload_n S.1 S.2.1 dX7_back_21 rfl (lv_at hl 0 rfl) ?_
    refine gMo_keptHolders S hK hW dX7_back_22 ?_
    refine lv_aload_n S.1 S.2.1 dX7_back_25 rfl (lv_at hl 0 rfl) ?_
    refine gMo_kept S hK hW dX7_back_26 ?_
    obtain ⟨hi_3, h⟩ := gI_some h
    refine lMo_keptHolders S hK hW hi_3 dX7_back_29 ?_
    refine pMo_holders S hK hW dX7_back_30 (fun H locs σ_4 eσ_4 hW => ?_)
    have h := nm_to eσ_4 h
    refine lv_aload_n S.1 S.2.1 dX7_back_33 rfl (lv_at hl 0 rfl) ?_
    refine gMo_kept S hK hW dX7_back_34 ?_
    obtain ⟨rfl, rfl⟩ := pr2 h
    exact hQ _ _ _ _ dX7_back_37 rfl hW
  · have h := ite_t c_1 h
    refine lv_bipush (v := -2) S.1 S.2.1 dX7_back_7 (by decide) ?_
    obtain ⟨rfl, rfl⟩ := pr2 h
    exact hQ _ _ _ _ dX7_back_9 rfl hW
set_option maxHeartbeats 4000000 in
set_option maxRecDepth 100000 in
theorem wMo_count_67 {p : Program} {l : Launch} {e : Env} {s : State} {m : MethodId} {args : Array Value} {below : List Frame} {meth : Method} {c : Code} {A : Nat → Prop} {Q : State → Prop} {D : va_G} {cs : Nat → ClassId} {a : Nat → Nat} {σ : St} {Λ : Nat → Int64} {r : Int32} {N : Nat} (S : Fx p m c cX7_count 2 s args RX7) (hK : va_K D vwCl (tyL cs) s) (hA : ∀ x, s.heap.size ≤ x → A x) (hQ : ∀ (H : Heap) (locs : List Loc) (pc : Nat) (ls : Array Slot), decode cX7_count pc = .ok (.ireturn, 1) → narrow .int (.int r) = .int r → Wd D A s.heap (wMo cs a σ Λ) H locs → W p l e { frames := 1, cells := 0, slots := 0, locals := 22 } s m args below meth c H locs 0 0 Q (F0 m pc ls [.int r])) : ∀ (k0 : Int32) (H : Heap) (locs : List Loc) (ls : Array Slot), fMo_count_67 N σ k0 = some r → Wd D A s.heap (wMo cs a σ Λ) H locs → lv_has ls 2 [] → W p l e { frames := 1, cells := 0, slots := 0, locals := 22 } s m args below meth c H locs 0 0 Q (F0 m 67 ls [.int k0]) := by
  intro k0 H locs ls h hW hl
  unfold fMo_count_67 at h
  obtain rfl := pr1 h
  exact hQ _ _ _ _ dX7_count_67 rfl hW
set_option maxHeartbeats 4000000 in
set_option maxRecDepth 100000 in
theorem cMo_count (l : Launch) (D : va_G) (cs : Nat → ClassId) (a : Nat → Nat) (σ : St) (Λ : Nat → Int64) (p0 : Int32) (N : Nat) {r : Int32} (h : fMo_count N p0 σ = some r) : Ki l D cs none yX7_count cX7_count 2 (some .int) 1 22 (wMo cs a σ Λ) [.ref (a 0), .int p0] r (wMo cs a σ Λ) := by
  refine Ki_of (by decide +kernel) (Nat.le_of_ble_eq_true rfl) (fun p e s m below meth c A S hK hA hZ Q hQ ls hl hW => ?_)
  have hl : lv_has ls 2 [(0, .ref (a 0)), (1, .int p0)] := hl
  unfold fMo_count at h
  refine lv_iload_n S.1 S.2.1 dX7_count_0 rfl (lv_at hl 1 rfl) ?_
  refine lv_if_ne (tgt := 13) S.1 S.2.1 dX7_count_1 (by decide) (fun c_1 => ?_) (fun c_1 => ?_)
  · have h := ite_f c_1 h
    refine lv_iload_n S.1 S.2.1 dX7_count_13 rfl (lv_at hl 1 rfl) ?_
    refine lv_iconst (v := 1) S.1 S.2.1 dX7_count_14 (by decide) ?_
    refine lv_icmp_ne (tgt := 27) S.1 S.2.1 dX7_count_15 (by decide) (fun c_2 => ?_) (fun c_2 => ?_)
    · have h := ite_f c_2 h
      refine lv_iload_n S.1 S.2.1 dX7_count_27 rfl (lv_at hl 1 rfl) ?_
      refine lv_iconst (v := 2) S.1 S.2.1 dX7_count_28 (by decide) ?_
      refine lv_icmp_ne (tgt := 39) S.1 S.2.1 dX7_count_29 (by decide) (fun c_3 => ?_) (fun c_3 => ?_)
      · have h := ite_f c_3 h
        refine lv_iload_n S.1 S.2.1 dX7_count_39 rfl (lv_at hl 1 rfl) ?_
        refine lv_iconst (v := 3) S.1 S.2.1 dX7_count_40 (by decide) ?_
        refine lv_icmp_ne (tgt := 54) S.1 S.2.1 dX7_count_41 (by decide) (fun c_4 => ?_) (fun c_4 => ?_)
        · have h := ite_f c_4 h
          refine lv_iload_n S.1 S.2.1 dX7_count_54 rfl (lv_at hl 1 rfl) ?_
          refine lv_iconst (v := 4) S.1 S.2.1 dX7_count_55 (by decide) ?_
          refine lv_icmp_ne (tgt := 66) S.1 S.2.1 dX7_count_56 (by decide) (fun c_5 => ?_) (fun c_5 => ?_)
          · have h := ite_f c_5 h
            refine lv_iconst (v := -1) S.1 S.2.1 dX7_count_66 (by decide) ?_
            exact wMo_count_67 S hK hA hQ (-1 : Int32) _ _ _ h hW (lv_sub hl [] rfl)
          · have h := ite_t c_5 h
            refine lv_aload_n S.1 S.2.1 dX7_count_59 rfl (lv_at hl 0 rfl) ?_
            refine gMo_kept S hK hW dX7_count_60 ?_
            refine lv_goto (tgt := 67) S.1 S.2.1 dX7_count_63 (by decide) ?_
            exact wMo_count_67 S hK hA hQ (σ 0 9) _ _ _ h hW (lv_sub hl [] rfl)
        · have h := ite_t c_4 h
          refine lv_aload_n S.1 S.2.1 dX7_count_44 rfl (lv_at hl 0 rfl) ?_
          refine gMo_holders S hK hW dX7_count_45 ?_
          obtain ⟨r_6, hc_7, h⟩ := cl1_some h
          refine kS_i (As := [.int (σ 0 8)]) (rest := []) S hK hA (z := none) trivial [] (wMo cs a σ Λ) hW (cMo_many l D cs (σ 0 8) N hc_7) lk_X7_195 q896 ⟨Nat.le_of_ble_eq_true rfl, Nat.le_of_ble_eq_true rfl⟩ rfl (Nat.le_of_ble_eq_true rfl) hl.1 dX7_count_48 ⟨Nat.zero_le _, Nat.zero_le _⟩ (fun H locs hW => ?_)
          have hW : Wd D A s.heap (wMo cs a σ Λ) H locs := hW
          refine lv_goto (tgt := 67) S.1 S.2.1 dX7_count_51 (by decide) ?_
          exact wMo_count_67 S hK hA hQ r_6 _ _ _ h hW (lv_sub hl [] rfl)
      · have h := ite_t c_3 h
        refine lv_aload_n S.1 S.2.1 dX7_count_32 rfl (lv_at hl 0 rfl) ?_
        refine gMo_length S hK hW dX7_count_33 ?_
        refine lv_goto (tgt := 67) S.1 S.2.1 dX7_count_36 (by decide) ?_
        exact wMo_count_67 S hK hA hQ (σ 0 0) _ _ _ h hW (lv_sub hl [] rfl)
    · have h := ite_t c_2 h
      refine lv_aload_n S.1 S.2.1 dX7_count_18 rfl (lv_at hl 0 rfl) ?_
      refine gMo_readers S hK hW dX7_count_19 ?_
      refine lv_iconst (v := 0) S.1 S.2.1 dX7_count_22 (by decide) ?_
      obtain ⟨hi_8, h⟩ := gI_some h
      refine lMo_readers S hK hW hi_8 dX7_count_23 ?_
      refine lv_goto (tgt := 67) S.1 S.2.1 dX7_count_24 (by decide) ?_
      exact wMo_count_67 S hK hA hQ (σ 5 (0 : Int32).toNatClampNeg) _ _ _ h hW (lv_sub hl [] rfl)
  · have h := ite_t c_1 h
    refine lv_aload_n S.1 S.2.1 dX7_count_4 rfl (lv_at hl 0 rfl) ?_
    refine gMo_seats S hK hW dX7_count_5 ?_
    refine lv_iconst (v := 0) S.1 S.2.1 dX7_count_8 (by decide) ?_
    obtain ⟨hi_9, h⟩ := gI_some h
    refine lMo_seats S hK hW hi_9 dX7_count_9 ?_
    refine lv_goto (tgt := 67) S.1 S.2.1 dX7_count_10 (by decide) ?_
    exact wMo_count_67 S hK hA hQ (σ 4 (0 : Int32).toNatClampNeg) _ _ _ h hW (lv_sub hl [] rfl)
