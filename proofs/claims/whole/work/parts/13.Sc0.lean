set_option maxHeartbeats 4000000 in
set_option maxRecDepth 100000 in
theorem cSc_itemOf (l : Launch) (D : va_G) (cs : Nat → ClassId) (p0 : Int32) (N : Nat) {r : Int32} (h : fSc_itemOf N p0 = some r) : Ki l D cs none yX4_itemOf cX4_itemOf 1 (some .int) 0 0 [] [.int p0] r [] := by
  refine Ki_of (by decide +kernel) (Nat.le_of_ble_eq_true rfl) (fun p e s m below meth c A S hK hA hZ Q hQ ls hl hW => ?_)
  have hl : lv_has ls 1 [(0, .int p0)] := hl
  unfold fSc_itemOf at h
  refine lv_iload_n S.1 S.2.1 dX4_itemOf_0 rfl (lv_at hl 0 rfl) ?_
  rcases Classical.em (p0 = 99) with c_1 | c_1
  · have h := ite_t c_1 h
    refine lv_lookup (off := 63) (tgt := 64) S.1 S.2.1 dX4_itemOf_1 (by decide) (by rw [c_1]; decide) (by decide) ?_
    refine lv_iconst (v := 2) S.1 S.2.1 dX4_itemOf_64 (by decide) ?_
    obtain rfl := pr1 h
    exact hQ _ _ _ _ dX4_itemOf_65 rfl hW
  · have h := ite_f c_1 h
    rcases Classical.em (p0 = 108) with c_2 | c_2
    · have h := ite_t c_2 h
      refine lv_lookup (off := 65) (tgt := 66) S.1 S.2.1 dX4_itemOf_1 (by decide) (by rw [c_2]; decide) (by decide) ?_
      refine lv_iconst (v := 3) S.1 S.2.1 dX4_itemOf_66 (by decide) ?_
      obtain rfl := pr1 h
      exact hQ _ _ _ _ dX4_itemOf_67 rfl hW
    · have h := ite_f c_2 h
      rcases Classical.em (p0 = 114) with c_3 | c_3
      · have h := ite_t c_3 h
        refine lv_lookup (off := 61) (tgt := 62) S.1 S.2.1 dX4_itemOf_1 (by decide) (by rw [c_3]; decide) (by decide) ?_
        refine lv_iconst (v := 1) S.1 S.2.1 dX4_itemOf_62 (by decide) ?_
        obtain rfl := pr1 h
        exact hQ _ _ _ _ dX4_itemOf_63 rfl hW
      · have h := ite_f c_3 h
        rcases Classical.em (p0 = 115) with c_4 | c_4
        · have h := ite_t c_4 h
          refine lv_lookup (off := 59) (tgt := 60) S.1 S.2.1 dX4_itemOf_1 (by decide) (by rw [c_4]; decide) (by decide) ?_
          refine lv_iconst (v := 0) S.1 S.2.1 dX4_itemOf_60 (by decide) ?_
          obtain rfl := pr1 h
          exact hQ _ _ _ _ dX4_itemOf_61 rfl hW
        · have h := ite_f c_4 h
          rcases Classical.em (p0 = 118) with c_5 | c_5
          · have h := ite_t c_5 h
            refine lv_lookup (off := 69) (tgt := 70) S.1 S.2.1 dX4_itemOf_1 (by decide) (by rw [c_5]; decide) (by decide) ?_
            refine lv_iconst (v := 5) S.1 S.2.1 dX4_itemOf_70 (by decide) ?_
            obtain rfl := pr1 h
            exact hQ _ _ _ _ dX4_itemOf_71 rfl hW
          · have h := ite_f c_5 h
            rcases Classical.em (p0 = 119) with c_6 | c_6
            · have h := ite_t c_6 h
              refine lv_lookup (off := 67) (tgt := 68) S.1 S.2.1 dX4_itemOf_1 (by decide) (by rw [c_6]; decide) (by decide) ?_
              refine lv_iconst (v := 4) S.1 S.2.1 dX4_itemOf_68 (by decide) ?_
              obtain rfl := pr1 h
              exact hQ _ _ _ _ dX4_itemOf_69 rfl hW
            · have h := ite_f c_6 h
              refine lv_lookup (off := 71) (tgt := 72) S.1 S.2.1 dX4_itemOf_1 (by decide) (by rw [lv_osw (k := 99) c_1 (by decide), lv_osw (k := 108) c_2 (by decide), lv_osw (k := 114) c_3 (by decide), lv_osw (k := 115) c_4 (by decide), lv_osw (k := 118) c_5 (by decide), lv_osw (k := 119) c_6 (by decide)]; rfl) (by decide) ?_
              refine lv_bipush (v := -4) S.1 S.2.1 dX4_itemOf_72 (by decide) ?_
              obtain rfl := pr1 h
              exact hQ _ _ _ _ dX4_itemOf_74 rfl hW
set_option maxHeartbeats 4000000 in
set_option maxRecDepth 100000 in
theorem cSc_put (l : Launch) (D : va_G) (cs : Nat → ClassId) (a aT aR : Nat → Nat) (ς : St) (τ : St) (ρ : St) (p0 : Int32) (N : Nat) {r : Int32} {ρ' : St} (h : fSc_put N p0 ς ρ = some (r, ρ')) : Ki l D cs none yX4_put cX4_put 3 (some .boolean) 2 81 (wSc cs a (aT 0) ς ++ (wTe cs aT τ ++ (wRo cs aR ρ))) [.ref (a 0), .int p0, .ref (aR 0)] r (wSc cs a (aT 0) ς ++ (wTe cs aT τ ++ (wRo cs aR ρ'))) := by
  refine Ki_of (by decide +kernel) (Nat.le_of_ble_eq_true rfl) (fun p e s m below meth c A S hK hA hZ Q hQ ls hl hW => ?_)
  have hl : lv_has ls 3 [(0, .ref (a 0)), (1, .int p0), (2, .ref (aR 0))] := hl
  unfold fSc_put at h
  refine lv_iload_n S.1 S.2.1 dX4_put_0 rfl (lv_at hl 1 rfl) ?_
  rcases Classical.em (p0 = 0) with c_1 | c_1
  · have h := ite_t c_1 h
    refine lv_tableIn (off := 35) (tgt := 36) S.1 S.2.1 dX4_put_1 (by rw [c_1]; decide) (by rw [c_1]; decide) (by rw [c_1]; decide) (by decide) ?_
    refine lv_aload_n S.1 S.2.1 dX4_put_36 rfl (lv_at hl 2 rfl) ?_
    refine lv_aload_n S.1 S.2.1 dX4_put_37 rfl (lv_at hl 0 rfl) ?_
    refine gSc_numbers S hK hW dX4_put_38 ?_
    refine lv_iconst (v := 0) S.1 S.2.1 dX4_put_41 (by decide) ?_
    obtain ⟨hi_2, h⟩ := gI_some h
    refine lSc_numbers S hK hW hi_2 dX4_put_42 ?_
    obtain ⟨r_3, ρ_4, hc_5, h⟩ := cl2_some h
    have hW := kw (w' := (wSc cs a (aT 0) ς ++ (wTe cs aT τ)) ++ ((wRo cs aR ρ) ++ [])) (by simp only [List.append_assoc, List.nil_append, List.append_nil]) hW
    refine kV_i (As := [.int (ς 2 (0 : Int32).toNatClampNeg)]) (rest := []) S hK hA (z := none) trivial (wSc cs a (aT 0) ς ++ (wTe cs aT τ)) [] hW (cRo_addSeat l D cs aR ρ (ς 2 (0 : Int32).toNatClampNeg) N hc_5) (ci := 2) rfl rfl lk_X4_61 q130 q131 ⟨Nat.le_of_ble_eq_true rfl, Nat.le_of_ble_eq_true rfl⟩ rfl (Nat.le_of_ble_eq_true rfl) hl.1 dX4_put_43 ⟨Nat.zero_le _, Nat.zero_le _⟩ (fun H locs hW => ?_)
    have hW : Wd D A s.heap (wSc cs a (aT 0) ς ++ (wTe cs aT τ ++ (wRo cs aR ρ_4))) H locs := kw (by simp only [List.append_assoc, List.nil_append, List.append_nil]) hW
    obtain ⟨hb_6, h⟩ := gB_some h
    obtain ⟨rfl, rfl⟩ := pr2 h
    exact hQ _ _ _ _ dX4_put_46 hb_6 hW
  · have h := ite_f c_1 h
    rcases Classical.em (p0 = 1) with c_7 | c_7
    · have h := ite_t c_7 h
      refine lv_tableIn (off := 46) (tgt := 47) S.1 S.2.1 dX4_put_1 (by rw [c_7]; decide) (by rw [c_7]; decide) (by rw [c_7]; decide) (by decide) ?_
      refine lv_aload_n S.1 S.2.1 dX4_put_47 rfl (lv_at hl 2 rfl) ?_
      refine lv_aload_n S.1 S.2.1 dX4_put_48 rfl (lv_at hl 0 rfl) ?_
      refine gSc_numbers S hK hW dX4_put_49 ?_
      obtain ⟨r_8, ρ_9, hc_10, h⟩ := cl2_some h
      have hW := kw (w' := (wSc cs a (aT 0) ς ++ (wTe cs aT τ)) ++ ((wRo cs aR ρ) ++ [])) (by simp only [List.append_assoc, List.nil_append, List.append_nil]) hW
      refine kVX_i (rest := []) S hK hA (wSc cs a (aT 0) ς ++ (wTe cs aT τ)) [] hW (c_Ro_addReader l D cs aR (a 2) (ς 2) ρ N hc_10) (k_told hK hW 1 rfl) (ci := 2) rfl rfl lk_X4_64 q136 q137 ⟨Nat.le_of_ble_eq_true rfl, Nat.le_of_ble_eq_true rfl⟩ rfl (Nat.le_of_ble_eq_true rfl) hl.1 dX4_put_52 ⟨Nat.zero_le _, Nat.zero_le _⟩ (fun H locs hW => ?_)
      have hW : Wd D A s.heap (wSc cs a (aT 0) ς ++ (wTe cs aT τ ++ (wRo cs aR ρ_9))) H locs := kw (by simp only [List.append_assoc, List.nil_append, List.append_nil]) hW
      obtain ⟨hb_11, h⟩ := gB_some h
      obtain ⟨rfl, rfl⟩ := pr2 h
      exact hQ _ _ _ _ dX4_put_55 hb_11 hW
    · have h := ite_f c_7 h
      rcases Classical.em (p0 = 2) with c_12 | c_12
      · have h := ite_t c_12 h
        refine lv_tableIn (off := 55) (tgt := 56) S.1 S.2.1 dX4_put_1 (by rw [c_12]; decide) (by rw [c_12]; decide) (by rw [c_12]; decide) (by decide) ?_
        refine lv_aload_n S.1 S.2.1 dX4_put_56 rfl (lv_at hl 2 rfl) ?_
        refine lv_aload_n S.1 S.2.1 dX4_put_57 rfl (lv_at hl 0 rfl) ?_
        refine gSc_numbers S hK hW dX4_put_58 ?_
        refine lv_iconst (v := 0) S.1 S.2.1 dX4_put_61 (by decide) ?_
        obtain ⟨hi_13, h⟩ := gI_some h
        refine lSc_numbers S hK hW hi_13 dX4_put_62 ?_
        refine lv_aload_n S.1 S.2.1 dX4_put_63 rfl (lv_at hl 0 rfl) ?_
        refine gSc_numbers S hK hW dX4_put_64 ?_
        refine lv_iconst (v := 1) S.1 S.2.1 dX4_put_67 (by decide) ?_
        obtain ⟨hi_14, h⟩ := gI_some h
        refine lSc_numbers S hK hW hi_14 dX4_put_68 ?_
        obtain ⟨r_15, ρ_16, hc_17, h⟩ := cl2_some h
        have hW := kw (w' := (wSc cs a (aT 0) ς ++ (wTe cs aT τ)) ++ ((wRo cs aR ρ) ++ [])) (by simp only [List.append_assoc, List.nil_append, List.append_nil]) hW
        refine kV_i (As := [.int (ς 2 (0 : Int32).toNatClampNeg), .int (ς 2 (1 : Int32).toNatClampNeg)]) (rest := []) S hK hA (z := none) trivial (wSc cs a (aT 0) ς ++ (wTe cs aT τ)) [] hW (cRo_setCards l D cs aR ρ (ς 2 (0 : Int32).toNatClampNeg) (ς 2 (1 : Int32).toNatClampNeg) N hc_17) (ci := 2) rfl rfl lk_X4_68 q334 q335 ⟨Nat.le_of_ble_eq_true rfl, Nat.le_of_ble_eq_true rfl⟩ rfl (Nat.le_of_ble_eq_true rfl) hl.1 dX4_put_69 ⟨Nat.zero_le _, Nat.zero_le _⟩ (fun H locs hW => ?_)
        have hW : Wd D A s.heap (wSc cs a (aT 0) ς ++ (wTe cs aT τ ++ (wRo cs aR ρ_16))) H locs := kw (by simp only [List.append_assoc, List.nil_append, List.append_nil]) hW
        obtain ⟨hb_18, h⟩ := gB_some h
        obtain ⟨rfl, rfl⟩ := pr2 h
        exact hQ _ _ _ _ dX4_put_72 hb_18 hW
      · have h := ite_f c_12 h
        rcases Classical.em (p0 = 3) with c_19 | c_19
        · have h := ite_t c_19 h
          refine lv_tableIn (off := 72) (tgt := 73) S.1 S.2.1 dX4_put_1 (by rw [c_19]; decide) (by rw [c_19]; decide) (by rw [c_19]; decide) (by decide) ?_
          refine lv_aload_n S.1 S.2.1 dX4_put_73 rfl (lv_at hl 2 rfl) ?_
          refine lv_aload_n S.1 S.2.1 dX4_put_74 rfl (lv_at hl 0 rfl) ?_
          refine gSc_numbers S hK hW dX4_put_75 ?_
          refine lv_iconst (v := 0) S.1 S.2.1 dX4_put_78 (by decide) ?_
          obtain ⟨hi_20, h⟩ := gI_some h
          refine lSc_numbers S hK hW hi_20 dX4_put_79 ?_
          obtain ⟨r_21, ρ_22, hc_23, h⟩ := cl2_some h
          have hW := kw (w' := (wSc cs a (aT 0) ς ++ (wTe cs aT τ)) ++ ((wRo cs aR ρ) ++ [])) (by simp only [List.append_assoc, List.nil_append, List.append_nil]) hW
          refine kV_i (As := [.int (ς 2 (0 : Int32).toNatClampNeg)]) (rest := []) S hK hA (z := none) trivial (wSc cs a (aT 0) ς ++ (wTe cs aT τ)) [] hW (cRo_setLamps l D cs aR ρ (ς 2 (0 : Int32).toNatClampNeg) N hc_23) (ci := 2) rfl rfl lk_X4_72 q338 q339 ⟨Nat.le_of_ble_eq_true rfl, Nat.le_of_ble_eq_true rfl⟩ rfl (Nat.le_of_ble_eq_true rfl) hl.1 dX4_put_80 ⟨Nat.zero_le _, Nat.zero_le _⟩ (fun H locs hW => ?_)
          have hW : Wd D A s.heap (wSc cs a (aT 0) ς ++ (wTe cs aT τ ++ (wRo cs aR ρ_22))) H locs := kw (by simp only [List.append_assoc, List.nil_append, List.append_nil]) hW
          obtain ⟨hb_24, h⟩ := gB_some h
          obtain ⟨rfl, rfl⟩ := pr2 h
          exact hQ _ _ _ _ dX4_put_83 hb_24 hW
        · have h := ite_f c_19 h
          rcases Classical.em (p0 = 4) with c_25 | c_25
          · have h := ite_t c_25 h
            refine lv_tableIn (off := 83) (tgt := 84) S.1 S.2.1 dX4_put_1 (by rw [c_25]; decide) (by rw [c_25]; decide) (by rw [c_25]; decide) (by decide) ?_
            refine lv_aload_n S.1 S.2.1 dX4_put_84 rfl (lv_at hl 2 rfl) ?_
            refine lv_aload_n S.1 S.2.1 dX4_put_85 rfl (lv_at hl 0 rfl) ?_
            refine gSc_numbers S hK hW dX4_put_86 ?_
            refine lv_iconst (v := 0) S.1 S.2.1 dX4_put_89 (by decide) ?_
            obtain ⟨hi_26, h⟩ := gI_some h
            refine lSc_numbers S hK hW hi_26 dX4_put_90 ?_
            obtain ⟨r_27, ρ_28, hc_29, h⟩ := cl2_some h
            have hW := kw (w' := (wSc cs a (aT 0) ς ++ (wTe cs aT τ)) ++ ((wRo cs aR ρ) ++ [])) (by simp only [List.append_assoc, List.nil_append, List.append_nil]) hW
            refine kV_i (As := [.int (ς 2 (0 : Int32).toNatClampNeg)]) (rest := []) S hK hA (z := none) trivial (wSc cs a (aT 0) ς ++ (wTe cs aT τ)) [] hW (cRo_setSeeking l D cs aR ρ (ς 2 (0 : Int32).toNatClampNeg) N hc_29) (ci := 2) rfl rfl lk_X4_75 q342 q343 ⟨Nat.le_of_ble_eq_true rfl, Nat.le_of_ble_eq_true rfl⟩ rfl (Nat.le_of_ble_eq_true rfl) hl.1 dX4_put_91 ⟨Nat.zero_le _, Nat.zero_le _⟩ (fun H locs hW => ?_)
            have hW : Wd D A s.heap (wSc cs a (aT 0) ς ++ (wTe cs aT τ ++ (wRo cs aR ρ_28))) H locs := kw (by simp only [List.append_assoc, List.nil_append, List.append_nil]) hW
            obtain ⟨hb_30, h⟩ := gB_some h
            obtain ⟨rfl, rfl⟩ := pr2 h
            exact hQ _ _ _ _ dX4_put_94 hb_30 hW
          · have h := ite_f c_25 h
            refine lv_tableOut (tgt := 95) S.1 S.2.1 dX4_put_1 (by have z0 := lv_neT (a := 0) c_1 (by decide); have z1 := lv_neT (a := 1) c_7 (by decide); have z2 := lv_neT (a := 2) c_12 (by decide); have z3 := lv_neT (a := 3) c_19 (by decide); have z4 := lv_neT (a := 4) c_25 (by decide); omega) (by decide) ?_
            refine lv_aload_n S.1 S.2.1 dX4_put_95 rfl (lv_at hl 2 rfl) ?_
            refine lv_aload_n S.1 S.2.1 dX4_put_96 rfl (lv_at hl 0 rfl) ?_
            refine gSc_numbers S hK hW dX4_put_97 ?_
            refine lv_iconst (v := 0) S.1 S.2.1 dX4_put_100 (by decide) ?_
            obtain ⟨hi_31, h⟩ := gI_some h
            refine lSc_numbers S hK hW hi_31 dX4_put_101 ?_
            obtain ⟨r_32, ρ_33, hc_34, h⟩ := cl2_some h
            have hW := kw (w' := (wSc cs a (aT 0) ς ++ (wTe cs aT τ)) ++ ((wRo cs aR ρ) ++ [])) (by simp only [List.append_assoc, List.nil_append, List.append_nil]) hW
            refine kV_i (As := [.int (ς 2 (0 : Int32).toNatClampNeg)]) (rest := []) S hK hA (z := none) trivial (wSc cs a (aT 0) ς ++ (wTe cs aT τ)) [] hW (cRo_setLater l D cs aR ρ (ς 2 (0 : Int32).toNatClampNeg) N hc_34) (ci := 2) rfl rfl lk_X4_78 q346 q347 ⟨Nat.le_of_ble_eq_true rfl, Nat.le_of_ble_eq_true rfl⟩ rfl (Nat.le_of_ble_eq_true rfl) hl.1 dX4_put_102 ⟨Nat.zero_le _, Nat.zero_le _⟩ (fun H locs hW => ?_)
            have hW : Wd D A s.heap (wSc cs a (aT 0) ς ++ (wTe cs aT τ ++ (wRo cs aR ρ_33))) H locs := kw (by simp only [List.append_assoc, List.nil_append, List.append_nil]) hW
            obtain ⟨hb_35, h⟩ := gB_some h
            obtain ⟨rfl, rfl⟩ := pr2 h
            exact hQ _ _ _ _ dX4_put_105 hb_35 hW
set_option maxHeartbeats 4000000 in
set_option maxRecDepth 100000 in
theorem wSc_readFigures_49 {p : Program} {l : Launch} {e : Env} {s : State} {m : MethodId} {args : Array Value} {below : List Frame} {meth : Method} {c : Code} {A : Nat → Prop} {Q : State → Prop} {D : va_G} {cs : Nat → ClassId} {a aT aR : Nat → Nat} {τ : St} {ρ : St} {r : Int32} {ς' : St} {N : Nat} (S : Fx p m c cX4_readFigures 4 s args RX4) (hK : va_K D vwCl (tyL cs) s) (hA : ∀ x, s.heap.size ≤ x → A x) (hQ : ∀ (H : Heap) (locs : List Loc) (pc : Nat) (ls : Array Slot), decode cX4_readFigures pc = .ok (.ireturn, 1) → narrow .int (.int r) = .int r → Wd D A s.heap (wSc cs a (aT 0) ς' ++ (wTe cs aT τ ++ (wRo cs aR ρ))) H locs → W p l e { frames := 1, cells := 0, slots := 0, locals := 21 } s m args below meth c H locs 0 0 Q (F0 m pc ls [.int r])) {k_5 : Int32 → Int32 → St → Option (Int32 × St)} (hk_5 : ∀ (v1 : Int32) (v2 : Int32) (ς : St) (H : Heap) (locs : List Loc) (ls : Array Slot), k_5 v1 v2 ς = some (r, ς') → Wd D A s.heap (wSc cs a (aT 0) ς ++ (wTe cs aT τ ++ (wRo cs aR ρ))) H locs → lv_has ls 4 [(0, .ref (a 0)), (1, .int v1), (2, .int v2)] → W p l e { frames := 1, cells := 0, slots := 0, locals := 21 } s m args below meth c H locs 0 0 Q (F0 m 5 ls [])) : ∀ (v2 : Int32) (v3 : Int32) (k0 : Int32) (ς : St) (H : Heap) (locs : List Loc) (ls : Array Slot), fSc_readFigures_49 k_5 N τ v2 v3 k0 ς = some (r, ς') → Wd D A s.heap (wSc cs a (aT 0) ς ++ (wTe cs aT τ ++ (wRo cs aR ρ))) H locs → lv_has ls 4 [(0, .ref (a 0)), (2, .int v2), (3, .int v3)] → W p l e { frames := 1, cells := 0, slots := 0, locals := 21 } s m args below meth c H locs 0 0 Q (F0 m 49 ls [.int k0]) := by
  intro v2 v3 k0 ς H locs ls h hW hl
  unfold fSc_readFigures_49 at h
  refine lv_iload_n S.1 S.2.1 dX4_readFigures_49 rfl (lv_at hl 2 rfl) ?_
  refine lv_iadd S.1 S.2.1 dX4_readFigures_50 ?_
  refine lv_bipush (v := 48) S.1 S.2.1 dX4_readFigures_51 (by decide) ?_
  refine lv_isub S.1 S.2.1 dX4_readFigures_53 ?_
  refine lv_topi (fun x1_1 ex1_1 => ?_)
  have h := nm_to ex1_1 h
  refine lv_istore_n (lv' := [(1, .int x1_1), (0, .ref (a 0)), (2, .int v2), (3, .int v3)]) S.1 S.2.1 dX4_readFigures_54 rfl hl (by decide) rfl (fun ls hl => ?_)
  refine lv_aload_n S.1 S.2.1 dX4_readFigures_55 rfl (lv_at hl 1 rfl) ?_
  refine lv_dup S.1 S.2.1 dX4_readFigures_56 rfl ?_
  refine gSc_at S hK hW dX4_readFigures_57 ?_
  refine lv_iconst (v := 1) S.1 S.2.1 dX4_readFigures_60 (by decide) ?_
  refine lv_iadd S.1 S.2.1 dX4_readFigures_61 ?_
  refine pSc_at S hK hW dX4_readFigures_62 (fun H locs ς_2 eς_2 hW => ?_)
  have h := nm_to eς_2 h
  obtain ⟨x2_3, ex2_3, h⟩ := nm_some h
  refine lv_iinc (v := x2_3) (lv' := [(2, .int x2_3), (1, .int x1_1), (0, .ref (a 0)), (3, .int v3)]) S.1 S.2.1 dX4_readFigures_65 hl (k := 2) rfl (by rw [ex2_3]; rfl) (by decide) rfl (fun ls hl => ?_)
  refine lv_goto (tgt := 5) S.1 S.2.1 dX4_readFigures_68 (by decide) ?_
  exact hk_5 x1_1 x2_3 ς_2 _ _ _ h hW (lv_sub hl [2, 1, 0] rfl)
set_option maxHeartbeats 4000000 in
set_option maxRecDepth 100000 in
theorem wSc_readFigures_71 {p : Program} {l : Launch} {e : Env} {s : State} {m : MethodId} {args : Array Value} {below : List Frame} {meth : Method} {c : Code} {A : Nat → Prop} {Q : State → Prop} {D : va_G} {cs : Nat → ClassId} {a aT aR : Nat → Nat} {τ : St} {ρ : St} {r : Int32} {ς' : St} {N : Nat} (S : Fx p m c cX4_readFigures 4 s args RX4) (hK : va_K D vwCl (tyL cs) s) (hA : ∀ x, s.heap.size ≤ x → A x) (hQ : ∀ (H : Heap) (locs : List Loc) (pc : Nat) (ls : Array Slot), decode cX4_readFigures pc = .ok (.ireturn, 1) → narrow .int (.int r) = .int r → Wd D A s.heap (wSc cs a (aT 0) ς' ++ (wTe cs aT τ ++ (wRo cs aR ρ))) H locs → W p l e { frames := 1, cells := 0, slots := 0, locals := 21 } s m args below meth c H locs 0 0 Q (F0 m pc ls [.int r])) : ∀ (v1 : Int32) (ς : St) (H : Heap) (locs : List Loc) (ls : Array Slot), fSc_readFigures_71 N τ v1 ς = some (r, ς') → Wd D A s.heap (wSc cs a (aT 0) ς ++ (wTe cs aT τ ++ (wRo cs aR ρ))) H locs → lv_has ls 4 [(1, .int v1)] → W p l e { frames := 1, cells := 0, slots := 0, locals := 21 } s m args below meth c H locs 0 0 Q (F0 m 71 ls []) := by
  intro v1 ς H locs ls h hW hl
  unfold fSc_readFigures_71 at h
  refine lv_iload_n S.1 S.2.1 dX4_readFigures_71 rfl (lv_at hl 0 rfl) ?_
  obtain ⟨rfl, rfl⟩ := pr2 h
  exact hQ _ _ _ _ dX4_readFigures_72 rfl hW
set_option maxHeartbeats 4000000 in
set_option maxRecDepth 100000 in
theorem wSc_readFigures_5 {p : Program} {l : Launch} {e : Env} {s : State} {m : MethodId} {args : Array Value} {below : List Frame} {meth : Method} {c : Code} {A : Nat → Prop} {Q : State → Prop} {D : va_G} {cs : Nat → ClassId} {a aT aR : Nat → Nat} {τ : St} {ρ : St} {r : Int32} {ς' : St} {N : Nat} (S : Fx p m c cX4_readFigures 4 s args RX4) (hK : va_K D vwCl (tyL cs) s) (hA : ∀ x, s.heap.size ≤ x → A x) (hQ : ∀ (H : Heap) (locs : List Loc) (pc : Nat) (ls : Array Slot), decode cX4_readFigures pc = .ok (.ireturn, 1) → narrow .int (.int r) = .int r → Wd D A s.heap (wSc cs a (aT 0) ς' ++ (wTe cs aT τ ++ (wRo cs aR ρ))) H locs → W p l e { frames := 1, cells := 0, slots := 0, locals := 21 } s m args below meth c H locs 0 0 Q (F0 m pc ls [.int r])) : ∀ (n_5 : Nat) (v1 : Int32) (v2 : Int32) (ς : St) (H : Heap) (locs : List Loc) (ls : Array Slot), fSc_readFigures_5 N τ n_5 v1 v2 ς = some (r, ς') → Wd D A s.heap (wSc cs a (aT 0) ς ++ (wTe cs aT τ ++ (wRo cs aR ρ))) H locs → lv_has ls 4 [(0, .ref (a 0)), (1, .int v1), (2, .int v2)] → W p l e { frames := 1, cells := 0, slots := 0, locals := 21 } s m args below meth c H locs 0 0 Q (F0 m 5 ls []) := by
  intro n_5
  induction n_5 with
  | zero =>
    intro v1 v2 ς H locs ls h
    cases h
  | succ n_5 ih =>
    intro v1 v2 ς H locs ls h hW hl
    unfold fSc_readFigures_5 at h
    refine lv_iload_n S.1 S.2.1 dX4_readFigures_5 rfl (lv_at hl 2 rfl) ?_
    refine lv_iconst (v := 3) S.1 S.2.1 dX4_readFigures_6 (by decide) ?_
    refine lv_icmp_ge (tgt := 71) S.1 S.2.1 dX4_readFigures_7 (by decide) (fun c_4 => ?_) (fun c_4 => ?_)
    · have h := ite_t c_4 h
      exact wSc_readFigures_71 S hK hA hQ v1 ς _ _ _ h hW (lv_sub hl [1] rfl)
    · have h := ite_f c_4 h
      refine lv_aload_n S.1 S.2.1 dX4_readFigures_10 rfl (lv_at hl 0 rfl) ?_
      refine gSc_text S hK hW dX4_readFigures_11 ?_
      refine lv_aload_n S.1 S.2.1 dX4_readFigures_14 rfl (lv_at hl 0 rfl) ?_
      refine gSc_at S hK hW dX4_readFigures_15 ?_
      obtain ⟨r_5, hc_6, h⟩ := cl1_some h
      have hW := kw (w' := (wSc cs a (aT 0) ς) ++ ((wTe cs aT τ) ++ (wRo cs aR ρ))) (by simp only [List.append_assoc, List.nil_append, List.append_nil]) hW
      refine kV_i (As := [.int (ς 0 2)]) (rest := []) S hK hA (z := none) trivial (wSc cs a (aT 0) ς) (wRo cs aR ρ) hW (cTe_byteAt l D cs aT τ (ς 0 2) N hc_6) (ci := 4) rfl rfl lk_X4_34 q307 q308 ⟨Nat.le_of_ble_eq_true rfl, Nat.le_of_ble_eq_true rfl⟩ rfl (Nat.le_of_ble_eq_true rfl) hl.1 dX4_readFigures_18 ⟨Nat.zero_le _, Nat.zero_le _⟩ (fun H locs hW => ?_)
      have hW : Wd D A s.heap (wSc cs a (aT 0) ς ++ (wTe cs aT τ ++ (wRo cs aR ρ))) H locs := kw (by simp only [List.append_assoc, List.nil_append, List.append_nil]) hW
      refine lv_istore_n (lv' := [(3, .int r_5), (0, .ref (a 0)), (1, .int v1), (2, .int v2)]) S.1 S.2.1 dX4_readFigures_21 rfl hl (by decide) rfl (fun ls hl => ?_)
      refine lv_iload_n S.1 S.2.1 dX4_readFigures_22 rfl (lv_at hl 0 rfl) ?_
      refine lv_bipush (v := 48) S.1 S.2.1 dX4_readFigures_23 (by decide) ?_
      refine lv_icmp_lt (tgt := 71) S.1 S.2.1 dX4_readFigures_25 (by decide) (fun c_7 => ?_) (fun c_7 => ?_)
      · have h := ite_t c_7 h
        exact wSc_readFigures_71 S hK hA hQ v1 ς _ _ _ h hW (lv_sub hl [2] rfl)
      · have h := ite_f c_7 h
        refine lv_iload_n S.1 S.2.1 dX4_readFigures_28 rfl (lv_at hl 0 rfl) ?_
        refine lv_bipush (v := 57) S.1 S.2.1 dX4_readFigures_29 (by decide) ?_
        refine lv_icmp_le (tgt := 37) S.1 S.2.1 dX4_readFigures_31 (by decide) (fun c_8 => ?_) (fun c_8 => ?_)
        · have h := ite_t c_8 h
          refine lv_iload_n S.1 S.2.1 dX4_readFigures_37 rfl (lv_at hl 3 rfl) ?_
          refine lv_if_ne (tgt := 45) S.1 S.2.1 dX4_readFigures_38 (by decide) (fun c_9 => ?_) (fun c_9 => ?_)
          · have h := ite_f c_9 h
            refine lv_iload_n S.1 S.2.1 dX4_readFigures_45 rfl (lv_at hl 2 rfl) ?_
            refine lv_bipush (v := 10) S.1 S.2.1 dX4_readFigures_46 (by decide) ?_
            refine lv_imul S.1 S.2.1 dX4_readFigures_48 ?_
            exact wSc_readFigures_49 S hK hA hQ ih v2 r_5 (v1 * (10 : Int32)) ς _ _ _ h hW (lv_sub hl [1, 3, 0] rfl)
          · have h := ite_t c_9 h
            refine lv_iconst (v := 0) S.1 S.2.1 dX4_readFigures_41 (by decide) ?_
            refine lv_goto (tgt := 49) S.1 S.2.1 dX4_readFigures_42 (by decide) ?_
            exact wSc_readFigures_49 S hK hA hQ ih v2 r_5 (0 : Int32) ς _ _ _ h hW (lv_sub hl [1, 3, 0] rfl)
        · have h := ite_f c_8 h
          refine lv_goto (tgt := 71) S.1 S.2.1 dX4_readFigures_34 (by decide) ?_
          exact wSc_readFigures_71 S hK hA hQ v1 ς _ _ _ h hW (lv_sub hl [2] rfl)
set_option maxHeartbeats 4000000 in
set_option maxRecDepth 100000 in
theorem cSc_readFigures (l : Launch) (D : va_G) (cs : Nat → ClassId) (a aT aR : Nat → Nat) (ς : St) (τ : St) (ρ : St) (N : Nat) {r : Int32} {ς' : St} (h : fSc_readFigures N τ ς = some (r, ς')) : Ki l D cs none yX4_readFigures cX4_readFigures 4 (some .int) 1 21 (wSc cs a (aT 0) ς ++ (wTe cs aT τ ++ (wRo cs aR ρ))) [.ref (a 0)] r (wSc cs a (aT 0) ς' ++ (wTe cs aT τ ++ (wRo cs aR ρ))) := by
  refine Ki_of (by decide +kernel) (Nat.le_of_ble_eq_true rfl) (fun p e s m below meth c A S hK hA hZ Q hQ ls hl hW => ?_)
  have hl : lv_has ls 4 [(0, .ref (a 0))] := hl
  unfold fSc_readFigures at h
  refine lv_bipush (v := -4) S.1 S.2.1 dX4_readFigures_0 (by decide) ?_
  refine lv_istore_n (lv' := [(1, .int (-4 : Int32)), (0, .ref (a 0))]) S.1 S.2.1 dX4_readFigures_2 rfl hl (by decide) rfl (fun ls hl => ?_)
  refine lv_iconst (v := 0) S.1 S.2.1 dX4_readFigures_3 (by decide) ?_
  refine lv_istore_n (lv' := [(2, .int (0 : Int32)), (1, .int (-4 : Int32)), (0, .ref (a 0))]) S.1 S.2.1 dX4_readFigures_4 rfl hl (by decide) rfl (fun ls hl => ?_)
  exact wSc_readFigures_5 S hK hA hQ N (-4 : Int32) (0 : Int32) ς _ _ _ h hW (lv_sub hl [2, 1, 0] rfl)
set_option maxHeartbeats 4000000 in
set_option maxRecDepth 100000 in
theorem wSc_readNumbers_14 {p : Program} {l : Launch} {e : Env} {s : State} {m : MethodId} {args : Array Value} {below : List Frame} {meth : Method} {c : Code} {A : Nat → Prop} {Q : State → Prop} {D : va_G} {cs : Nat → ClassId} {a aT aR : Nat → Nat} {fs : Nat → Nat} {τ : St} {ρ : St} {r : Int32} {ς' : St} {N : Nat} (S : Fx p m c cX4_readNumbers 6 s args RX4) (hK : va_K D vwCl (tyL cs) s) (hA : ∀ x, s.heap.size ≤ x → A x) (hZ : Zf fs A s s.heap) (hQ : ∀ (H : Heap) (locs : List Loc) (pc : Nat) (ls : Array Slot), decode cX4_readNumbers pc = .ok (.ireturn, 1) → narrow .boolean (.int r) = .int r → Wd D A s.heap (wSc cs a (aT 0) ς' ++ (wTe cs aT τ ++ (wRo cs aR ρ))) H locs → W p l e { frames := 2, cells := 0, slots := 0, locals := 44 } s m args below meth c H locs 0 0 Q (F0 m pc ls [.int r])) : ∀ (ς : St) (H : Heap) (locs : List Loc) (ls : Array Slot), fSc_readNumbers_14 N τ ς = some (r, ς') → Wd D A s.heap (wSc cs a (aT 0) ς ++ (wTe cs aT τ ++ (wRo cs aR ρ))) H locs → lv_has ls 6 [] → W p l e { frames := 2, cells := 0, slots := 0, locals := 44 } s m args below meth c H locs 0 0 Q (F0 m 14 ls []) := by
  intro ς H locs ls h hW hl
  unfold fSc_readNumbers_14 at h
  refine lv_iconst (v := 0) S.1 S.2.1 dX4_readNumbers_14 (by decide) ?_
  obtain ⟨rfl, rfl⟩ := pr2 h
  exact hQ _ _ _ _ dX4_readNumbers_15 rfl hW
set_option maxHeartbeats 4000000 in
set_option maxRecDepth 100000 in
theorem wSc_readNumbers_83 {p : Program} {l : Launch} {e : Env} {s : State} {m : MethodId} {args : Array Value} {below : List Frame} {meth : Method} {c : Code} {A : Nat → Prop} {Q : State → Prop} {D : va_G} {cs : Nat → ClassId} {a aT aR : Nat → Nat} {fs : Nat → Nat} {τ : St} {ρ : St} {r : Int32} {ς' : St} {N : Nat} (S : Fx p m c cX4_readNumbers 6 s args RX4) (hK : va_K D vwCl (tyL cs) s) (hA : ∀ x, s.heap.size ≤ x → A x) (hZ : Zf fs A s s.heap) (hQ : ∀ (H : Heap) (locs : List Loc) (pc : Nat) (ls : Array Slot), decode cX4_readNumbers pc = .ok (.ireturn, 1) → narrow .boolean (.int r) = .int r → Wd D A s.heap (wSc cs a (aT 0) ς' ++ (wTe cs aT τ ++ (wRo cs aR ρ))) H locs → W p l e { frames := 2, cells := 0, slots := 0, locals := 44 } s m args below meth c H locs 0 0 Q (F0 m pc ls [.int r])) : ∀ (ς : St) (H : Heap) (locs : List Loc) (ls : Array Slot), fSc_readNumbers_83 N τ ς = some (r, ς') → Wd D A s.heap (wSc cs a (aT 0) ς ++ (wTe cs aT τ ++ (wRo cs aR ρ))) H locs → lv_has ls 6 [] → W p l e { frames := 2, cells := 0, slots := 0, locals := 44 } s m args below meth c H locs 0 0 Q (F0 m 83 ls []) := by
  intro ς H locs ls h hW hl
  unfold fSc_readNumbers_83 at h
  refine lv_iconst (v := 0) S.1 S.2.1 dX4_readNumbers_83 (by decide) ?_
  obtain ⟨rfl, rfl⟩ := pr2 h
  exact hQ _ _ _ _ dX4_readNumbers_84 rfl hW
set_option maxHeartbeats 4000000 in
set_option maxRecDepth 100000 in
theorem wSc_readNumbers_120 {p : Program} {l : Launch} {e : Env} {s : State} {m : MethodId} {args : Array Value} {below : List Frame} {meth : Method} {c : Code} {A : Nat → Prop} {Q : State → Prop} {D : va_G} {cs : Nat → ClassId} {a aT aR : Nat → Nat} {fs : Nat → Nat} {τ : St} {ρ : St} {r : Int32} {ς' : St} {N : Nat} (S : Fx p m c cX4_readNumbers 6 s args RX4) (hK : va_K D vwCl (tyL cs) s) (hA : ∀ x, s.heap.size ≤ x → A x) (hZ : Zf fs A s s.heap) (hQ : ∀ (H : Heap) (locs : List Loc) (pc : Nat) (ls : Array Slot), decode cX4_readNumbers pc = .ok (.ireturn, 1) → narrow .boolean (.int r) = .int r → Wd D A s.heap (wSc cs a (aT 0) ς' ++ (wTe cs aT τ ++ (wRo cs aR ρ))) H locs → W p l e { frames := 2, cells := 0, slots := 0, locals := 44 } s m args below meth c H locs 0 0 Q (F0 m pc ls [.int r])) {k_35 : Int32 → Int32 → Int32 → St → Option (Int32 × St)} (hk_35 : ∀ (v2 : Int32) (v3 : Int32) (v4 : Int32) (ς : St) (H : Heap) (locs : List Loc) (ls : Array Slot), k_35 v2 v3 v4 ς = some (r, ς') → Wd D A s.heap (wSc cs a (aT 0) ς ++ (wTe cs aT τ ++ (wRo cs aR ρ))) H locs → lv_has ls 6 [(0, .ref (a 0)), (2, .int v2), (3, .int v3), (4, .int v4)] → W p l e { frames := 2, cells := 0, slots := 0, locals := 44 } s m args below meth c H locs 0 0 Q (F0 m 35 ls [])) : ∀ (v2 : Int32) (v3 : Int32) (v4 : Int32) (k0 : Int32) (k1 : Int32) (ς : St) (H : Heap) (locs : List Loc) (ls : Array Slot), fSc_readNumbers_120 k_35 N τ v2 v3 v4 k0 k1 ς = some (r, ς') → Wd D A s.heap (wSc cs a (aT 0) ς ++ (wTe cs aT τ ++ (wRo cs aR ρ))) H locs → lv_has ls 6 [(0, .ref (a 0)), (2, .int v2), (3, .int v3), (4, .int v4)] → W p l e { frames := 2, cells := 0, slots := 0, locals := 44 } s m args below meth c H locs 0 0 Q (F0 m 120 ls [.int k1, .int k0]) := by
  intro v2 v3 v4 k0 k1 ς H locs ls h hW hl
  unfold fSc_readNumbers_120 at h
  refine lv_icmp_eq (tgt := 125) S.1 S.2.1 dX4_readNumbers_120 (by decide) (fun c_1 => ?_) (fun c_1 => ?_)
  · have h := ite_t c_1 h
    refine lv_aload_n S.1 S.2.1 dX4_readNumbers_125 rfl (lv_at hl 0 rfl) ?_
    refine lv_dup S.1 S.2.1 dX4_readNumbers_126 rfl ?_
    refine gSc_at S hK hW dX4_readNumbers_127 ?_
    refine lv_iconst (v := 1) S.1 S.2.1 dX4_readNumbers_130 (by decide) ?_
    refine lv_iadd S.1 S.2.1 dX4_readNumbers_131 ?_
    refine pSc_at S hK hW dX4_readNumbers_132 (fun H locs ς_2 eς_2 hW => ?_)
    have h := nm_to eς_2 h
    obtain ⟨x4_3, ex4_3, h⟩ := nm_some h
    refine lv_iinc (v := x4_3) (lv' := [(4, .int x4_3), (0, .ref (a 0)), (2, .int v2), (3, .int v3)]) S.1 S.2.1 dX4_readNumbers_135 hl (k := 3) rfl (by rw [ex4_3]; rfl) (by decide) rfl (fun ls hl => ?_)
    refine lv_goto (tgt := 35) S.1 S.2.1 dX4_readNumbers_138 (by decide) ?_
    exact hk_35 v2 v3 x4_3 ς_2 _ _ _ h hW (lv_sub hl [1, 2, 3, 0] rfl)
  · have h := ite_f c_1 h
    refine lv_iconst (v := 0) S.1 S.2.1 dX4_readNumbers_123 (by decide) ?_
    obtain ⟨rfl, rfl⟩ := pr2 h
    exact hQ _ _ _ _ dX4_readNumbers_124 rfl hW
set_option maxHeartbeats 4000000 in
set_option maxRecDepth 100000 in
theorem wSc_readNumbers_141 {p : Program} {l : Launch} {e : Env} {s : State} {m : MethodId} {args : Array Value} {below : List Frame} {meth : Method} {c : Code} {A : Nat → Prop} {Q : State → Prop} {D : va_G} {cs : Nat → ClassId} {a aT aR : Nat → Nat} {fs : Nat → Nat} {τ : St} {ρ : St} {r : Int32} {ς' : St} {N : Nat} (S : Fx p m c cX4_readNumbers 6 s args RX4) (hK : va_K D vwCl (tyL cs) s) (hA : ∀ x, s.heap.size ≤ x → A x) (hZ : Zf fs A s s.heap) (hQ : ∀ (H : Heap) (locs : List Loc) (pc : Nat) (ls : Array Slot), decode cX4_readNumbers pc = .ok (.ireturn, 1) → narrow .boolean (.int r) = .int r → Wd D A s.heap (wSc cs a (aT 0) ς' ++ (wTe cs aT τ ++ (wRo cs aR ρ))) H locs → W p l e { frames := 2, cells := 0, slots := 0, locals := 44 } s m args below meth c H locs 0 0 Q (F0 m pc ls [.int r])) : ∀ (ς : St) (H : Heap) (locs : List Loc) (ls : Array Slot), fSc_readNumbers_141 N τ ς = some (r, ς') → Wd D A s.heap (wSc cs a (aT 0) ς ++ (wTe cs aT τ ++ (wRo cs aR ρ))) H locs → lv_has ls 6 [] → W p l e { frames := 2, cells := 0, slots := 0, locals := 44 } s m args below meth c H locs 0 0 Q (F0 m 141 ls []) := by
  intro ς H locs ls h hW hl
  unfold fSc_readNumbers_141 at h
  refine lv_iconst (v := 1) S.1 S.2.1 dX4_readNumbers_141 (by decide) ?_
  obtain ⟨rfl, rfl⟩ := pr2 h
  exact hQ _ _ _ _ dX4_readNumbers_142 rfl hW
set_option maxHeartbeats 4000000 in
set_option maxRecDepth 100000 in
theorem wSc_readNumbers_35 {p : Program} {l : Launch} {e : Env} {s : State} {m : MethodId} {args : Array Value} {below : List Frame} {meth : Method} {c : Code} {A : Nat → Prop} {Q : State → Prop} {D : va_G} {cs : Nat → ClassId} {a aT aR : Nat → Nat} {fs : Nat → Nat} {τ : St} {ρ : St} {r : Int32} {ς' : St} {N : Nat} (S : Fx p m c cX4_readNumbers 6 s args RX4) (hK : va_K D vwCl (tyL cs) s) (hA : ∀ x, s.heap.size ≤ x → A x) (hZ : Zf fs A s s.heap) (hQ : ∀ (H : Heap) (locs : List Loc) (pc : Nat) (ls : Array Slot), decode cX4_readNumbers pc = .ok (.ireturn, 1) → narrow .boolean (.int r) = .int r → Wd D A s.heap (wSc cs a (aT 0) ς' ++ (wTe cs aT τ ++ (wRo cs aR ρ))) H locs → W p l e { frames := 2, cells := 0, slots := 0, locals := 44 } s m args below meth c H locs 0 0 Q (F0 m pc ls [.int r])) : ∀ (n_35 : Nat) (v2 : Int32) (v3 : Int32) (v4 : Int32) (ς : St) (H : Heap) (locs : List Loc) (ls : Array Slot), fSc_readNumbers_35 N τ n_35 v2 v3 v4 ς = some (r, ς') → Wd D A s.heap (wSc cs a (aT 0) ς ++ (wTe cs aT τ ++ (wRo cs aR ρ))) H locs → lv_has ls 6 [(0, .ref (a 0)), (2, .int v2), (3, .int v3), (4, .int v4)] → W p l e { frames := 2, cells := 0, slots := 0, locals := 44 } s m args below meth c H locs 0 0 Q (F0 m 35 ls []) := by
  intro n_35
  induction n_35 with
  | zero =>
    intro v2 v3 v4 ς H locs ls h
    cases h
  | succ n_35 ih =>
    intro v2 v3 v4 ς H locs ls h hW hl
    unfold fSc_readNumbers_35 at h
    refine lv_iload S.1 S.2.1 dX4_readNumbers_35 (lv_at hl 3 rfl) ?_
    refine lv_iload_n S.1 S.2.1 dX4_readNumbers_37 rfl (lv_at hl 2 rfl) ?_
    refine lv_icmp_ge (tgt := 141) S.1 S.2.1 dX4_readNumbers_38 (by decide) (fun c_4 => ?_) (fun c_4 => ?_)
    · have h := ite_t c_4 h
      exact wSc_readNumbers_141 S hK hA hZ hQ ς _ _ _ h hW (lv_sub hl [] rfl)
    · have h := ite_f c_4 h
      refine lv_iload S.1 S.2.1 dX4_readNumbers_41 (lv_at hl 3 rfl) ?_
      refine lv_aload_n S.1 S.2.1 dX4_readNumbers_43 rfl (lv_at hl 0 rfl) ?_
      refine gSc_numbers S hK hW dX4_readNumbers_44 ?_
      refine nSc_numbers S hK hW dX4_readNumbers_47 ?_
      refine lv_icmp_ge (tgt := 141) S.1 S.2.1 dX4_readNumbers_48 (by decide) (fun c_5 => ?_) (fun c_5 => ?_)
      · have h := ite_t c_5 h
        exact wSc_readNumbers_141 S hK hA hZ hQ ς _ _ _ h hW (lv_sub hl [] rfl)
      · have h := ite_f c_5 h
        refine lv_aload_n S.1 S.2.1 dX4_readNumbers_51 rfl (lv_at hl 0 rfl) ?_
        obtain ⟨r_6, ς_7, hc_8, h⟩ := cl2_some h
        have hW := kw_same hW
        refine kV_i (As := []) (rest := []) S hK hA (z := none) trivial [] [] hW (cSc_readFigures l D cs a aT aR ς τ ρ N hc_8) (ci := 3) rfl rfl lk_X4_52 q321 q1 ⟨Nat.le_of_ble_eq_true rfl, Nat.le_of_ble_eq_true rfl⟩ rfl (Nat.le_of_ble_eq_true rfl) hl.1 dX4_readNumbers_52 ⟨Nat.zero_le _, Nat.zero_le _⟩ (fun H locs hW => ?_)
        have hW : Wd D A s.heap (wSc cs a (aT 0) ς_7 ++ (wTe cs aT τ ++ (wRo cs aR ρ))) H locs := kw_back hW
        refine lv_istore (lv' := [(5, .int r_6), (0, .ref (a 0)), (2, .int v2), (3, .int v3), (4, .int v4)]) S.1 S.2.1 dX4_readNumbers_55 hl (by decide) rfl (fun ls hl => ?_)
        refine lv_iload S.1 S.2.1 dX4_readNumbers_57 (lv_at hl 0 rfl) ?_
        refine va_gets S.1 S.2.1 hZ.2.1.1 hW.2.2 S.2.2.2.1 (S.2.2.2.2 _ q323) (fun _ h => h) dX4_readNumbers_59 ?_
        refine lv_iload_n S.1 S.2.1 dX4_readNumbers_62 rfl (lv_at hl 2 rfl) ?_
        refine lv_iload S.1 S.2.1 dX4_readNumbers_63 (lv_at hl 4 rfl) ?_
        refine lv_iadd S.1 S.2.1 dX4_readNumbers_65 ?_
        obtain ⟨hi_9, h⟩ := gI_some h
        refine va_ti S.1 S.2.1 hZ.2.1.2 hW.2.2 hi_9 rfl dX4_readNumbers_66 ?_
        refine lv_icmp_lt (tgt := 83) S.1 S.2.1 dX4_readNumbers_67 (by decide) (fun c_10 => ?_) (fun c_10 => ?_)
        · have h := ite_t c_10 h
          exact wSc_readNumbers_83 S hK hA hZ hQ ς_7 _ _ _ h hW (lv_sub hl [] rfl)
        · have h := ite_f c_10 h
          refine lv_iload S.1 S.2.1 dX4_readNumbers_70 (lv_at hl 0 rfl) ?_
          refine va_gets S.1 S.2.1 hZ.2.2.1.1 hW.2.2 S.2.2.2.1 (S.2.2.2.2 _ q325) (fun _ h => h) dX4_readNumbers_72 ?_
          refine lv_iload_n S.1 S.2.1 dX4_readNumbers_75 rfl (lv_at hl 2 rfl) ?_
          refine lv_iload S.1 S.2.1 dX4_readNumbers_76 (lv_at hl 4 rfl) ?_
          refine lv_iadd S.1 S.2.1 dX4_readNumbers_78 ?_
          obtain ⟨hi_11, h⟩ := gI_some h
          refine va_ti S.1 S.2.1 hZ.2.2.1.2 hW.2.2 hi_11 rfl dX4_readNumbers_79 ?_
          refine lv_icmp_le (tgt := 85) S.1 S.2.1 dX4_readNumbers_80 (by decide) (fun c_12 => ?_) (fun c_12 => ?_)
          · have h := ite_t c_12 h
            refine lv_aload_n S.1 S.2.1 dX4_readNumbers_85 rfl (lv_at hl 1 rfl) ?_
            refine gSc_numbers S hK hW dX4_readNumbers_86 ?_
            refine lv_iload S.1 S.2.1 dX4_readNumbers_89 (lv_at hl 4 rfl) ?_
            refine lv_iload S.1 S.2.1 dX4_readNumbers_91 (lv_at hl 0 rfl) ?_
            obtain ⟨hi_13, h⟩ := gI_some h
            refine sSc_numbers S hK hW hi_13 dX4_readNumbers_93 (fun H locs ς_14 eς_14 hW => ?_)
            have h := nm_to eς_14 h
            refine lv_aload_n S.1 S.2.1 dX4_readNumbers_94 rfl (lv_at hl 1 rfl) ?_
            refine gSc_text S hK hW dX4_readNumbers_95 ?_
            refine lv_aload_n S.1 S.2.1 dX4_readNumbers_98 rfl (lv_at hl 1 rfl) ?_
            refine gSc_at S hK hW dX4_readNumbers_99 ?_
            obtain ⟨r_15, hc_16, h⟩ := cl1_some h
            have hW := kw (w' := (wSc cs a (aT 0) ς_14) ++ ((wTe cs aT τ) ++ (wRo cs aR ρ))) (by simp only [List.append_assoc, List.nil_append, List.append_nil]) hW
            refine kV_i (As := [.int (ς_14 0 2)]) (rest := []) S hK hA (z := none) trivial (wSc cs a (aT 0) ς_14) (wRo cs aR ρ) hW (cTe_byteAt l D cs aT τ (ς_14 0 2) N hc_16) (ci := 4) rfl rfl lk_X4_34 q307 q308 ⟨Nat.le_of_ble_eq_true rfl, Nat.le_of_ble_eq_true rfl⟩ rfl (Nat.le_of_ble_eq_true rfl) hl.1 dX4_readNumbers_102 ⟨Nat.zero_le _, Nat.zero_le _⟩ (fun H locs hW => ?_)
            have hW : Wd D A s.heap (wSc cs a (aT 0) ς_14 ++ (wTe cs aT τ ++ (wRo cs aR ρ))) H locs := kw (by simp only [List.append_assoc, List.nil_append, List.append_nil]) hW
            refine lv_iload S.1 S.2.1 dX4_readNumbers_105 (lv_at hl 4 rfl) ?_
            refine lv_iconst (v := 1) S.1 S.2.1 dX4_readNumbers_107 (by decide) ?_
            refine lv_iadd S.1 S.2.1 dX4_readNumbers_108 ?_
            refine lv_iload_n S.1 S.2.1 dX4_readNumbers_109 rfl (lv_at hl 3 rfl) ?_
            refine lv_icmp_ge (tgt := 118) S.1 S.2.1 dX4_readNumbers_110 (by decide) (fun c_17 => ?_) (fun c_17 => ?_)
            · have h := ite_t c_17 h
              refine lv_bipush (v := 59) S.1 S.2.1 dX4_readNumbers_118 (by decide) ?_
              exact wSc_readNumbers_120 S hK hA hZ hQ ih v2 v3 v4 r_15 (59 : Int32) ς_14 _ _ _ h hW (lv_sub hl [1, 2, 3, 4] rfl)
            · have h := ite_f c_17 h
              refine lv_bipush (v := 44) S.1 S.2.1 dX4_readNumbers_113 (by decide) ?_
              refine lv_goto (tgt := 120) S.1 S.2.1 dX4_readNumbers_115 (by decide) ?_
              exact wSc_readNumbers_120 S hK hA hZ hQ ih v2 v3 v4 r_15 (44 : Int32) ς_14 _ _ _ h hW (lv_sub hl [1, 2, 3, 4] rfl)
          · have h := ite_f c_12 h
            exact wSc_readNumbers_83 S hK hA hZ hQ ς_7 _ _ _ h hW (lv_sub hl [] rfl)
set_option maxHeartbeats 4000000 in
set_option maxRecDepth 100000 in
theorem cSc_readNumbers (l : Launch) (D : va_G) (cs : Nat → ClassId) (fs : Nat → Nat) (a aT aR : Nat → Nat) (ς : St) (τ : St) (ρ : St) (p0 : Int32) (N : Nat) {r : Int32} {ς' : St} (h : fSc_readNumbers N p0 τ ς = some (r, ς')) : Ki l D cs (some fs) yX4_readNumbers cX4_readNumbers 6 (some .boolean) 2 44 (wSc cs a (aT 0) ς ++ (wTe cs aT τ ++ (wRo cs aR ρ))) [.ref (a 0), .int p0] r (wSc cs a (aT 0) ς' ++ (wTe cs aT τ ++ (wRo cs aR ρ))) := by
  refine Ki_of (by decide +kernel) (Nat.le_of_ble_eq_true rfl) (fun p e s m below meth c A S hK hA hZ Q hQ ls hl hW => ?_)
  have hl : lv_has ls 6 [(0, .ref (a 0)), (1, .int p0)] := hl
  unfold fSc_readNumbers at h
  refine lv_iload_n S.1 S.2.1 dX4_readNumbers_0 rfl (lv_at hl 1 rfl) ?_
  refine lv_if_lt (tgt := 14) S.1 S.2.1 dX4_readNumbers_1 (by decide) (fun c_18 => ?_) (fun c_18 => ?_)
  · have h := ite_t c_18 h
    exact wSc_readNumbers_14 S hK hA hZ hQ ς _ _ _ h hW (lv_sub hl [] rfl)
  · have h := ite_f c_18 h
    refine lv_iload_n S.1 S.2.1 dX4_readNumbers_4 rfl (lv_at hl 1 rfl) ?_
    refine lv_iconst (v := 1) S.1 S.2.1 dX4_readNumbers_5 (by decide) ?_
    refine lv_iadd S.1 S.2.1 dX4_readNumbers_6 ?_
    refine va_gets S.1 S.2.1 hZ.1.1 hW.2.2 S.2.2.2.1 (S.2.2.2.2 _ q317) (fun _ h => h) dX4_readNumbers_7 ?_
    refine va_tlen S.1 S.2.1 hZ.1.2 hW.2.2 rfl dX4_readNumbers_10 ?_
    refine lv_icmp_lt (tgt := 16) S.1 S.2.1 dX4_readNumbers_11 (by decide) (fun c_19 => ?_) (fun c_19 => ?_)
    · have h := ite_t c_19 h
      refine va_gets S.1 S.2.1 hZ.1.1 hW.2.2 S.2.2.2.1 (S.2.2.2.2 _ q317) (fun _ h => h) dX4_readNumbers_16 ?_
      refine lv_iload_n S.1 S.2.1 dX4_readNumbers_19 rfl (lv_at hl 1 rfl) ?_
      obtain ⟨hi_20, h⟩ := gI_some h
      refine va_ti S.1 S.2.1 hZ.1.2 hW.2.2 hi_20 rfl dX4_readNumbers_20 ?_
      refine lv_topi (fun x2_21 ex2_21 => ?_)
      have h := nm_to ex2_21 h
      refine lv_istore_n (lv' := [(2, .int x2_21), (0, .ref (a 0)), (1, .int p0)]) S.1 S.2.1 dX4_readNumbers_21 rfl hl (by decide) rfl (fun ls hl => ?_)
      refine va_gets S.1 S.2.1 hZ.1.1 hW.2.2 S.2.2.2.1 (S.2.2.2.2 _ q317) (fun _ h => h) dX4_readNumbers_22 ?_
      refine lv_iload_n S.1 S.2.1 dX4_readNumbers_25 rfl (lv_at hl 2 rfl) ?_
      refine lv_iconst (v := 1) S.1 S.2.1 dX4_readNumbers_26 (by decide) ?_
      refine lv_iadd S.1 S.2.1 dX4_readNumbers_27 ?_
      obtain ⟨hi_22, h⟩ := gI_some h
      refine va_ti S.1 S.2.1 hZ.1.2 hW.2.2 hi_22 rfl dX4_readNumbers_28 ?_
      refine lv_iload_n S.1 S.2.1 dX4_readNumbers_29 rfl (lv_at hl 0 rfl) ?_
      refine lv_isub S.1 S.2.1 dX4_readNumbers_30 ?_
      refine lv_topi (fun x3_23 ex3_23 => ?_)
      have h := nm_to ex3_23 h
      refine lv_istore_n (lv' := [(3, .int x3_23), (2, .int x2_21), (0, .ref (a 0)), (1, .int p0)]) S.1 S.2.1 dX4_readNumbers_31 rfl hl (by decide) rfl (fun ls hl => ?_)
      refine lv_iconst (v := 0) S.1 S.2.1 dX4_readNumbers_32 (by decide) ?_
      refine lv_istore (lv' := [(4, .int (0 : Int32)), (3, .int x3_23), (2, .int x2_21), (0, .ref (a 0)), (1, .int p0)]) S.1 S.2.1 dX4_readNumbers_33 hl (by decide) rfl (fun ls hl => ?_)
      exact wSc_readNumbers_35 S hK hA hZ hQ N x2_21 x3_23 (0 : Int32) ς _ _ _ h hW (lv_sub hl [3, 2, 1, 0] rfl)
    · have h := ite_f c_19 h
      exact wSc_readNumbers_14 S hK hA hZ hQ ς _ _ _ h hW (lv_sub hl [] rfl)
set_option maxHeartbeats 4000000 in
set_option maxRecDepth 100000 in
theorem wSc_readInto_89 {p : Program} {l : Launch} {e : Env} {s : State} {m : MethodId} {args : Array Value} {below : List Frame} {meth : Method} {c : Code} {A : Nat → Prop} {Q : State → Prop} {D : va_G} {cs : Nat → ClassId} {a aT aR : Nat → Nat} {fs : Nat → Nat} {τ : St} {r : Int32} {ς' : St} {ρ' : St} {N : Nat} (S : Fx p m c cX4_readInto 5 s args RX4) (hK : va_K D vwCl (tyL cs) s) (hA : ∀ x, s.heap.size ≤ x → A x) (hZ : Zf fs A s s.heap) (hQ : ∀ (H : Heap) (locs : List Loc) (pc : Nat) (ls : Array Slot), decode cX4_readInto pc = .ok (.ireturn, 1) → narrow .int (.int r) = .int r → Wd D A s.heap (wSc cs a (aT 0) ς' ++ (wTe cs aT τ ++ (wRo cs aR ρ'))) H locs → W p l e { frames := 3, cells := 0, slots := 0, locals := 103 } s m args below meth c H locs 0 0 Q (F0 m pc ls [.int r])) : ∀ (v3 : Int32) (ς : St) (ρ : St) (H : Heap) (locs : List Loc) (ls : Array Slot), fSc_readInto_89 N τ v3 ς ρ = some (r, ς', ρ') → Wd D A s.heap (wSc cs a (aT 0) ς ++ (wTe cs aT τ ++ (wRo cs aR ρ))) H locs → lv_has ls 5 [(3, .int v3)] → W p l e { frames := 3, cells := 0, slots := 0, locals := 103 } s m args below meth c H locs 0 0 Q (F0 m 89 ls []) := by
  intro v3 ς ρ H locs ls h hW hl
  unfold fSc_readInto_89 at h
  refine lv_iload_n S.1 S.2.1 dX4_readInto_89 rfl (lv_at hl 0 rfl) ?_
  obtain ⟨rfl, rfl, rfl⟩ := pr3 h
  exact hQ _ _ _ _ dX4_readInto_90 rfl hW
set_option maxHeartbeats 4000000 in
set_option maxRecDepth 100000 in
theorem wSc_readInto_97 {p : Program} {l : Launch} {e : Env} {s : State} {m : MethodId} {args : Array Value} {below : List Frame} {meth : Method} {c : Code} {A : Nat → Prop} {Q : State → Prop} {D : va_G} {cs : Nat → ClassId} {a aT aR : Nat → Nat} {fs : Nat → Nat} {τ : St} {r : Int32} {ς' : St} {ρ' : St} {N : Nat} (S : Fx p m c cX4_readInto 5 s args RX4) (hK : va_K D vwCl (tyL cs) s) (hA : ∀ x, s.heap.size ≤ x → A x) (hZ : Zf fs A s s.heap) (hQ : ∀ (H : Heap) (locs : List Loc) (pc : Nat) (ls : Array Slot), decode cX4_readInto pc = .ok (.ireturn, 1) → narrow .int (.int r) = .int r → Wd D A s.heap (wSc cs a (aT 0) ς' ++ (wTe cs aT τ ++ (wRo cs aR ρ'))) H locs → W p l e { frames := 3, cells := 0, slots := 0, locals := 103 } s m args below meth c H locs 0 0 Q (F0 m pc ls [.int r])) : ∀ (ς : St) (ρ : St) (H : Heap) (locs : List Loc) (ls : Array Slot), fSc_readInto_97 N τ ς ρ = some (r, ς', ρ') → Wd D A s.heap (wSc cs a (aT 0) ς ++ (wTe cs aT τ ++ (wRo cs aR ρ))) H locs → lv_has ls 5 [] → W p l e { frames := 3, cells := 0, slots := 0, locals := 103 } s m args below meth c H locs 0 0 Q (F0 m 97 ls []) := by
  intro ς ρ H locs ls h hW hl
  unfold fSc_readInto_97 at h
  refine lv_bipush (v := -4) S.1 S.2.1 dX4_readInto_97 (by decide) ?_
  obtain ⟨rfl, rfl, rfl⟩ := pr3 h
  exact hQ _ _ _ _ dX4_readInto_99 rfl hW
set_option maxHeartbeats 4000000 in
set_option maxRecDepth 100000 in
theorem wSc_readInto_11 {p : Program} {l : Launch} {e : Env} {s : State} {m : MethodId} {args : Array Value} {below : List Frame} {meth : Method} {c : Code} {A : Nat → Prop} {Q : State → Prop} {D : va_G} {cs : Nat → ClassId} {a aT aR : Nat → Nat} {fs : Nat → Nat} {τ : St} {r : Int32} {ς' : St} {ρ' : St} {N : Nat} (S : Fx p m c cX4_readInto 5 s args RX4) (hK : va_K D vwCl (tyL cs) s) (hA : ∀ x, s.heap.size ≤ x → A x) (hZ : Zf fs A s s.heap) (hQ : ∀ (H : Heap) (locs : List Loc) (pc : Nat) (ls : Array Slot), decode cX4_readInto pc = .ok (.ireturn, 1) → narrow .int (.int r) = .int r → Wd D A s.heap (wSc cs a (aT 0) ς' ++ (wTe cs aT τ ++ (wRo cs aR ρ'))) H locs → W p l e { frames := 3, cells := 0, slots := 0, locals := 103 } s m args below meth c H locs 0 0 Q (F0 m pc ls [.int r])) : ∀ (n_11 : Nat) (v2 : Int32) (ς : St) (ρ : St) (H : Heap) (locs : List Loc) (ls : Array Slot), fSc_readInto_11 N τ n_11 v2 ς ρ = some (r, ς', ρ') → Wd D A s.heap (wSc cs a (aT 0) ς ++ (wTe cs aT τ ++ (wRo cs aR ρ))) H locs → lv_has ls 5 [(0, .ref (a 0)), (1, .ref (aR 0)), (2, .int v2)] → W p l e { frames := 3, cells := 0, slots := 0, locals := 103 } s m args below meth c H locs 0 0 Q (F0 m 11 ls []) := by
  intro n_11
  induction n_11 with
  | zero =>
    intro v2 ς ρ H locs ls h
    cases h
  | succ n_11 ih =>
    intro v2 ς ρ H locs ls h hW hl
    unfold fSc_readInto_11 at h
    refine lv_iload_n S.1 S.2.1 dX4_readInto_11 rfl (lv_at hl 2 rfl) ?_
    refine lv_sipush (v := 400) S.1 S.2.1 dX4_readInto_12 (by decide) ?_
    refine lv_icmp_ge (tgt := 97) S.1 S.2.1 dX4_readInto_15 (by decide) (fun c_1 => ?_) (fun c_1 => ?_)
    · have h := ite_t c_1 h
      exact wSc_readInto_97 S hK hA hZ hQ ς ρ _ _ _ h hW (lv_sub hl [] rfl)
    · have h := ite_f c_1 h
      refine lv_aload_n S.1 S.2.1 dX4_readInto_18 rfl (lv_at hl 0 rfl) ?_
      refine gSc_at S hK hW dX4_readInto_19 ?_
      refine lv_aload_n S.1 S.2.1 dX4_readInto_22 rfl (lv_at hl 0 rfl) ?_
      refine gSc_text S hK hW dX4_readInto_23 ?_
      obtain ⟨r_2, hc_3, h⟩ := cl1_some h
      have hW := kw (w' := (wSc cs a (aT 0) ς) ++ ((wTe cs aT τ) ++ (wRo cs aR ρ))) (by simp only [List.append_assoc, List.nil_append, List.append_nil]) hW
      refine kV_i (As := []) (rest := [.int (ς 0 2)]) S hK hA (z := none) trivial (wSc cs a (aT 0) ς) (wRo cs aR ρ) hW (cTe_length l D cs aT τ N hc_3) (ci := 4) rfl rfl lk_X4_28 q285 q286 ⟨Nat.le_of_ble_eq_true rfl, Nat.le_of_ble_eq_true rfl⟩ rfl (Nat.le_of_ble_eq_true rfl) hl.1 dX4_readInto_26 ⟨Nat.zero_le _, Nat.zero_le _⟩ (fun H locs hW => ?_)
      have hW : Wd D A s.heap (wSc cs a (aT 0) ς ++ (wTe cs aT τ ++ (wRo cs aR ρ))) H locs := kw (by simp only [List.append_assoc, List.nil_append, List.append_nil]) hW
      refine lv_icmp_ge (tgt := 97) S.1 S.2.1 dX4_readInto_29 (by decide) (fun c_4 => ?_) (fun c_4 => ?_)
      · have h := ite_t c_4 h
        exact wSc_readInto_97 S hK hA hZ hQ ς ρ _ _ _ h hW (lv_sub hl [] rfl)
      · have h := ite_f c_4 h
        refine lv_aload_n S.1 S.2.1 dX4_readInto_32 rfl (lv_at hl 0 rfl) ?_
        refine gSc_at S hK hW dX4_readInto_33 ?_
        refine lv_topi (fun x3_5 ex3_5 => ?_)
        have h := nm_to ex3_5 h
        refine lv_istore_n (lv' := [(3, .int x3_5), (0, .ref (a 0)), (1, .ref (aR 0)), (2, .int v2)]) S.1 S.2.1 dX4_readInto_36 rfl hl (by decide) rfl (fun ls hl => ?_)
        refine lv_aload_n S.1 S.2.1 dX4_readInto_37 rfl (lv_at hl 1 rfl) ?_
        refine gSc_text S hK hW dX4_readInto_38 ?_
        refine lv_aload_n S.1 S.2.1 dX4_readInto_41 rfl (lv_at hl 1 rfl) ?_
        refine gSc_at S hK hW dX4_readInto_42 ?_
        obtain ⟨r_6, hc_7, h⟩ := cl1_some h
        have hW := kw (w' := (wSc cs a (aT 0) ς) ++ ((wTe cs aT τ) ++ (wRo cs aR ρ))) (by simp only [List.append_assoc, List.nil_append, List.append_nil]) hW
        refine kV_i (As := [.int (ς 0 2)]) (rest := []) S hK hA (z := none) trivial (wSc cs a (aT 0) ς) (wRo cs aR ρ) hW (cTe_byteAt l D cs aT τ (ς 0 2) N hc_7) (ci := 4) rfl rfl lk_X4_34 q307 q308 ⟨Nat.le_of_ble_eq_true rfl, Nat.le_of_ble_eq_true rfl⟩ rfl (Nat.le_of_ble_eq_true rfl) hl.1 dX4_readInto_45 ⟨Nat.zero_le _, Nat.zero_le _⟩ (fun H locs hW => ?_)
        have hW : Wd D A s.heap (wSc cs a (aT 0) ς ++ (wTe cs aT τ ++ (wRo cs aR ρ))) H locs := kw (by simp only [List.append_assoc, List.nil_append, List.append_nil]) hW
        obtain ⟨r_8, hc_9, h⟩ := cl1_some h
        refine kS_i (As := [.int r_6]) (rest := []) S hK hA (z := none) trivial [] (wSc cs a (aT 0) ς ++ (wTe cs aT τ ++ (wRo cs aR ρ))) hW (cSc_itemOf l D cs r_6 N hc_9) lk_X4_38 q311 ⟨Nat.le_of_ble_eq_true rfl, Nat.le_of_ble_eq_true rfl⟩ rfl (Nat.le_of_ble_eq_true rfl) hl.1 dX4_readInto_48 ⟨Nat.zero_le _, Nat.zero_le _⟩ (fun H locs hW => ?_)
        have hW : Wd D A s.heap (wSc cs a (aT 0) ς ++ (wTe cs aT τ ++ (wRo cs aR ρ))) H locs := hW
        refine lv_istore (lv' := [(4, .int r_8), (3, .int x3_5), (0, .ref (a 0)), (1, .ref (aR 0)), (2, .int v2)]) S.1 S.2.1 dX4_readInto_51 hl (by decide) rfl (fun ls hl => ?_)
        refine lv_aload_n S.1 S.2.1 dX4_readInto_53 rfl (lv_at hl 2 rfl) ?_
        refine lv_dup S.1 S.2.1 dX4_readInto_54 rfl ?_
        refine gSc_at S hK hW dX4_readInto_55 ?_
        refine lv_iconst (v := 1) S.1 S.2.1 dX4_readInto_58 (by decide) ?_
        refine lv_iadd S.1 S.2.1 dX4_readInto_59 ?_
        refine pSc_at S hK hW dX4_readInto_60 (fun H locs ς_10 eς_10 hW => ?_)
        have h := nm_to eς_10 h
        refine lv_iload S.1 S.2.1 dX4_readInto_63 (lv_at hl 0 rfl) ?_
        refine lv_bipush (v := -4) S.1 S.2.1 dX4_readInto_65 (by decide) ?_
        refine lv_icmp_eq (tgt := 89) S.1 S.2.1 dX4_readInto_67 (by decide) (fun c_11 => ?_) (fun c_11 => ?_)
        · have h := ite_t c_11 h
          exact wSc_readInto_89 S hK hA hZ hQ x3_5 ς_10 ρ _ _ _ h hW (lv_sub hl [1] rfl)
        · have h := ite_f c_11 h
          refine lv_aload_n S.1 S.2.1 dX4_readInto_70 rfl (lv_at hl 2 rfl) ?_
          refine lv_iload S.1 S.2.1 dX4_readInto_71 (lv_at hl 0 rfl) ?_
          obtain ⟨r_12, ς_13, hc_14, h⟩ := cl2_some h
          have hW := kw_same hW
          refine kV_i (As := [.int r_8]) (rest := []) S hK hA (z := (some fs)) hZ [] [] hW (cSc_readNumbers l D cs fs a aT aR ς_10 τ ρ r_8 N hc_14) (ci := 3) rfl rfl lk_X4_41 q315 q0 ⟨Nat.le_of_ble_eq_true rfl, Nat.le_of_ble_eq_true rfl⟩ rfl (Nat.le_of_ble_eq_true rfl) hl.1 dX4_readInto_73 ⟨Nat.zero_le _, Nat.zero_le _⟩ (fun H locs hW => ?_)
          have hW : Wd D A s.heap (wSc cs a (aT 0) ς_13 ++ (wTe cs aT τ ++ (wRo cs aR ρ))) H locs := kw_back hW
          refine lv_if_eq (tgt := 89) S.1 S.2.1 dX4_readInto_76 (by decide) (fun c_15 => ?_) (fun c_15 => ?_)
          · have h := ite_t c_15 h
            exact wSc_readInto_89 S hK hA hZ hQ x3_5 ς_13 ρ _ _ _ h hW (lv_sub hl [1] rfl)
          · have h := ite_f c_15 h
            refine lv_aload_n S.1 S.2.1 dX4_readInto_79 rfl (lv_at hl 2 rfl) ?_
            refine lv_iload S.1 S.2.1 dX4_readInto_80 (lv_at hl 0 rfl) ?_
            refine lv_aload_n S.1 S.2.1 dX4_readInto_82 rfl (lv_at hl 3 rfl) ?_
            obtain ⟨r_16, ρ_17, hc_18, h⟩ := cl2_some h
            have hW := kw_same hW
            refine kV_i (As := [.int r_8, .ref (aR 0)]) (rest := []) S hK hA (z := none) trivial [] [] hW (cSc_put l D cs a aT aR ς_13 τ ρ r_8 N hc_18) (ci := 3) rfl rfl lk_X4_45 q329 q2 ⟨Nat.le_of_ble_eq_true rfl, Nat.le_of_ble_eq_true rfl⟩ rfl (Nat.le_of_ble_eq_true rfl) hl.1 dX4_readInto_83 ⟨Nat.zero_le _, Nat.zero_le _⟩ (fun H locs hW => ?_)
            have hW : Wd D A s.heap (wSc cs a (aT 0) ς_13 ++ (wTe cs aT τ ++ (wRo cs aR ρ_17))) H locs := kw_back hW
            refine lv_if_ne (tgt := 91) S.1 S.2.1 dX4_readInto_86 (by decide) (fun c_19 => ?_) (fun c_19 => ?_)
            · have h := ite_f c_19 h
              obtain ⟨x2_20, ex2_20, h⟩ := nm_some h
              refine lv_iinc (v := x2_20) (lv' := [(2, .int x2_20), (4, .int r_8), (3, .int x3_5), (0, .ref (a 0)), (1, .ref (aR 0))]) S.1 S.2.1 dX4_readInto_91 hl (k := 4) rfl (by rw [ex2_20]; rfl) (by decide) rfl (fun ls hl => ?_)
              refine lv_goto (tgt := 11) S.1 S.2.1 dX4_readInto_94 (by decide) ?_
              exact ih x2_20 ς_13 ρ_17 _ _ _ h hW (lv_sub hl [3, 4, 0] rfl)
            · have h := ite_t c_19 h
              exact wSc_readInto_89 S hK hA hZ hQ x3_5 ς_13 ρ_17 _ _ _ h hW (lv_sub hl [1] rfl)
set_option maxHeartbeats 4000000 in
set_option maxRecDepth 100000 in
theorem cSc_readInto (l : Launch) (D : va_G) (cs : Nat → ClassId) (fs : Nat → Nat) (a aT aR : Nat → Nat) (ς : St) (τ : St) (ρ : St) (N : Nat) {r : Int32} {ς' : St} {ρ' : St} (h : fSc_readInto N τ ς ρ = some (r, ς', ρ')) : Ki l D cs (some fs) yX4_readInto cX4_readInto 5 (some .int) 3 103 (wSc cs a (aT 0) ς ++ (wTe cs aT τ ++ (wRo cs aR ρ))) [.ref (a 0), .ref (aR 0)] r (wSc cs a (aT 0) ς' ++ (wTe cs aT τ ++ (wRo cs aR ρ'))) := by
  refine Ki_of (by decide +kernel) (Nat.le_of_ble_eq_true rfl) (fun p e s m below meth c A S hK hA hZ Q hQ ls hl hW => ?_)
  have hl : lv_has ls 5 [(0, .ref (a 0)), (1, .ref (aR 0))] := hl
  unfold fSc_readInto at h
  refine lv_aload_n S.1 S.2.1 dX4_readInto_0 rfl (lv_at hl 1 rfl) ?_
  obtain ⟨ρ_21, hc_22, h⟩ := cl1_some h
  have hW := kw (w' := (wSc cs a (aT 0) ς ++ (wTe cs aT τ)) ++ ((wRo cs aR ρ) ++ [])) (by simp only [List.append_assoc, List.nil_append, List.append_nil]) hW
  refine kV_v (As := []) (rest := []) S hK hA (z := none) trivial (wSc cs a (aT 0) ς ++ (wTe cs aT τ)) [] hW (cRo_clear l D cs aR ρ N hc_22) (ci := 2) rfl rfl lk_X4_23 q98 q99 ⟨Nat.le_of_ble_eq_true rfl, Nat.le_of_ble_eq_true rfl⟩ rfl (Nat.le_of_ble_eq_true rfl) hl.1 dX4_readInto_1 ⟨Nat.zero_le _, Nat.zero_le _⟩ (fun H locs hW => ?_)
  have hW : Wd D A s.heap (wSc cs a (aT 0) ς ++ (wTe cs aT τ ++ (wRo cs aR ρ_21))) H locs := kw (by simp only [List.append_assoc, List.nil_append, List.append_nil]) hW
  refine lv_aload_n S.1 S.2.1 dX4_readInto_4 rfl (lv_at hl 0 rfl) ?_
  refine lv_iconst (v := 0) S.1 S.2.1 dX4_readInto_5 (by decide) ?_
  refine pSc_at S hK hW dX4_readInto_6 (fun H locs ς_23 eς_23 hW => ?_)
  have h := nm_to eς_23 h
  refine lv_iconst (v := 0) S.1 S.2.1 dX4_readInto_9 (by decide) ?_
  refine lv_istore_n (lv' := [(2, .int (0 : Int32)), (0, .ref (a 0)), (1, .ref (aR 0))]) S.1 S.2.1 dX4_readInto_10 rfl hl (by decide) rfl (fun ls hl => ?_)
  exact wSc_readInto_11 S hK hA hZ hQ N (0 : Int32) ς_23 ρ_21 _ _ _ h hW (lv_sub hl [1, 2, 0] rfl)
