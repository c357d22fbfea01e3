set_option maxHeartbeats 4000000 in
set_option maxRecDepth 100000 in
theorem cDa_useCards (l : Launch) (D : va_G) (cs : Nat → ClassId) (a aR : Nat → Nat) (δ : St) (ρ : St) (p0 : Int32) (p1 : Int32) (N : Nat) {δ' : St} (h : fDa_useCards N p0 p1 δ = some δ') : Kv l D cs none yX0_useCards cX0_useCards 3 none 0 0 (wDa cs a (aR 0) δ ++ (wRo cs aR ρ)) [.ref (a 0), .int p0, .int p1] (wDa cs a (aR 0) δ' ++ (wRo cs aR ρ)) := by
  refine Kv_of (by decide +kernel) (Nat.le_of_ble_eq_true rfl) (fun p e s m below meth c A S hK hA hZ Q hQ ls hl hW => ?_)
  have hl : lv_has ls 3 [(0, .ref (a 0)), (1, .int p0), (2, .int p1)] := hl
  unfold fDa_useCards at h
  refine lv_aload_n S.1 S.2.1 dX0_useCards_0 rfl (lv_at hl 0 rfl) ?_
  refine lv_iload_n S.1 S.2.1 dX0_useCards_1 rfl (lv_at hl 1 rfl) ?_
  refine pDa_cardMinutes S hK hW dX0_useCards_2 (fun H locs δ_1 eδ_1 hW => ?_)
  have h := nm_to eδ_1 h
  refine lv_aload_n S.1 S.2.1 dX0_useCards_5 rfl (lv_at hl 0 rfl) ?_
  refine lv_iload_n S.1 S.2.1 dX0_useCards_6 rfl (lv_at hl 2 rfl) ?_
  refine pDa_porterMinutes S hK hW dX0_useCards_7 (fun H locs δ_2 eδ_2 hW => ?_)
  have h := nm_to eδ_2 h
  obtain rfl := pr1 h
  exact hQ _ _ _ _ dX0_useCards_10 hW
set_option maxHeartbeats 4000000 in
set_option maxRecDepth 100000 in
theorem wDa_open_65 {p : Program} {l : Launch} {e : Env} {s : State} {m : MethodId} {args : Array Value} {below : List Frame} {meth : Method} {c : Code} {A : Nat → Prop} {Q : State → Prop} {D : va_G} {cs : Nat → ClassId} {a aR : Nat → Nat} {ρ : St} {δ' : St} {N : Nat} (S : Fx p m c cX0_open 5 s args RX0) (hK : va_K D vwCl (tyL cs) s) (hA : ∀ x, s.heap.size ≤ x → A x) (hQ : ∀ (H : Heap) (locs : List Loc) (pc : Nat) (ls : Array Slot), decode cX0_open pc = .ok (.return_, 1) → Wd D A s.heap (wDa cs a (aR 0) δ' ++ (wRo cs aR ρ)) H locs → W p l e { frames := 1, cells := 0, slots := 0, locals := 23 } s m args below meth c H locs 0 0 Q (F0 m pc ls [])) : ∀ (n_65 : Nat) (v4 : Int32) (δ : St) (H : Heap) (locs : List Loc) (ls : Array Slot), fDa_open_65 N ρ n_65 v4 δ = some δ' → Wd D A s.heap (wDa cs a (aR 0) δ ++ (wRo cs aR ρ)) H locs → lv_has ls 5 [(0, .ref (a 0)), (1, .ref (aR 0)), (4, .int v4)] → W p l e { frames := 1, cells := 0, slots := 0, locals := 23 } s m args below meth c H locs 0 0 Q (F0 m 65 ls []) := by
  intro n_65
  induction n_65 with
  | zero =>
    intro v4 δ H locs ls h
    cases h
  | succ n_65 ih =>
    intro v4 δ H locs ls h hW hl
    unfold fDa_open_65 at h
    refine lv_iload S.1 S.2.1 dX0_open_65 (lv_at hl 2 rfl) ?_
    refine lv_bipush (v := 8) S.1 S.2.1 dX0_open_67 (by decide) ?_
    refine lv_icmp_ge (tgt := 124) S.1 S.2.1 dX0_open_69 (by decide) (fun c_1 => ?_) (fun c_1 => ?_)
    · have h := ite_t c_1 h
      refine lv_aload_n S.1 S.2.1 dX0_open_124 rfl (lv_at hl 0 rfl) ?_
      refine gDa_sitters S hK hW dX0_open_125 ?_
      refine lv_iconst (v := -1) S.1 S.2.1 dX0_open_128 (by decide) ?_
      obtain ⟨δ_2, eδ_2, h⟩ := nm_some h
      refine kS_v (As := [.ref (a 6), .int (-1 : Int32)]) (rest := []) S hK hA (z := none) trivial [(a 0, .inr (0, [.ref (a 1), .ref (a 2), .ref (a 3), .ref (a 4), .ref (a 5), .ref (a 6), .ref (a 7), .ref (a 8), .ref (aR 0), .int (δ 0 9), .int (δ 0 10), .int (δ 0 11), .int (δ 0 12), .int (δ 0 13), .int (δ 0 14), .int (δ 0 15), .int (δ 0 16), .int (δ 0 17), .int (δ 0 18), .int (δ 0 19)])), (a 1, .inl (cs 0, 8, .inl (δ 1))), (a 2, .inl (cs 0, 8, .inl (δ 2))), (a 3, .inl (cs 0, 8, .inl (δ 3))), (a 4, .inl (cs 0, 8, .inl (δ 4))), (a 5, .inl (cs 0, 8, .inl (δ 5)))] ([(a 7, .inl (cs 0, 10, .inl (δ 7))), (a 8, .inl (cs 0, 400, .inl (δ 8)))] ++ (wRo cs aR ρ)) hW (c_fillI l D cs (a 6) 10 (δ 6) (-1 : Int32) (Nat.le_of_ble_eq_true rfl)) lk_X0_81 q423 ⟨Nat.le_of_ble_eq_true rfl, Nat.le_of_ble_eq_true rfl⟩ rfl (Nat.le_of_ble_eq_true rfl) hl.1 dX0_open_129 ⟨Nat.zero_le _, Nat.zero_le _⟩ (fun H locs hW => ?_)
      have hW : Wd D A s.heap (wDa cs a (aR 0) δ_2 ++ (wRo cs aR ρ)) H locs := by rw [eδ_2]; exact hW
      refine lv_aload_n S.1 S.2.1 dX0_open_132 rfl (lv_at hl 0 rfl) ?_
      refine gDa_seatHolders S hK hW dX0_open_133 ?_
      refine lv_iconst (v := -1) S.1 S.2.1 dX0_open_136 (by decide) ?_
      obtain ⟨δ_3, eδ_3, h⟩ := nm_some h
      refine kS_v (As := [.ref (a 7), .int (-1 : Int32)]) (rest := []) S hK hA (z := none) trivial [(a 0, .inr (0, [.ref (a 1), .ref (a 2), .ref (a 3), .ref (a 4), .ref (a 5), .ref (a 6), .ref (a 7), .ref (a 8), .ref (aR 0), .int (δ_2 0 9), .int (δ_2 0 10), .int (δ_2 0 11), .int (δ_2 0 12), .int (δ_2 0 13), .int (δ_2 0 14), .int (δ_2 0 15), .int (δ_2 0 16), .int (δ_2 0 17), .int (δ_2 0 18), .int (δ_2 0 19)])), (a 1, .inl (cs 0, 8, .inl (δ_2 1))), (a 2, .inl (cs 0, 8, .inl (δ_2 2))), (a 3, .inl (cs 0, 8, .inl (δ_2 3))), (a 4, .inl (cs 0, 8, .inl (δ_2 4))), (a 5, .inl (cs 0, 8, .inl (δ_2 5))), (a 6, .inl (cs 0, 10, .inl (δ_2 6)))] ([(a 8, .inl (cs 0, 400, .inl (δ_2 8)))] ++ (wRo cs aR ρ)) hW (c_fillI l D cs (a 7) 10 (δ_2 7) (-1 : Int32) (Nat.le_of_ble_eq_true rfl)) lk_X0_81 q423 ⟨Nat.le_of_ble_eq_true rfl, Nat.le_of_ble_eq_true rfl⟩ rfl (Nat.le_of_ble_eq_true rfl) hl.1 dX0_open_137 ⟨Nat.zero_le _, Nat.zero_le _⟩ (fun H locs hW => ?_)
      have hW : Wd D A s.heap (wDa cs a (aR 0) δ_3 ++ (wRo cs aR ρ)) H locs := by rw [eδ_3]; exact hW
      refine lv_aload_n S.1 S.2.1 dX0_open_140 rfl (lv_at hl 0 rfl) ?_
      refine lv_iconst (v := 0) S.1 S.2.1 dX0_open_141 (by decide) ?_
      refine pDa_ran S hK hW dX0_open_142 (fun H locs δ_4 eδ_4 hW => ?_)
      have h := nm_to eδ_4 h
      refine lv_aload_n S.1 S.2.1 dX0_open_145 rfl (lv_at hl 0 rfl) ?_
      refine lv_aload_n S.1 S.2.1 dX0_open_146 rfl (lv_at hl 0 rfl) ?_
      refine gDa_readers S hK hW dX0_open_147 ?_
      refine pDa_left S hK hW dX0_open_150 (fun H locs δ_5 eδ_5 hW => ?_)
      have h := nm_to eδ_5 h
      refine lv_aload_n S.1 S.2.1 dX0_open_153 rfl (lv_at hl 0 rfl) ?_
      refine lv_iconst (v := 0) S.1 S.2.1 dX0_open_154 (by decide) ?_
      refine pDa_empty S hK hW dX0_open_155 (fun H locs δ_6 eδ_6 hW => ?_)
      have h := nm_to eδ_6 h
      refine lv_aload_n S.1 S.2.1 dX0_open_158 rfl (lv_at hl 0 rfl) ?_
      refine lv_iconst (v := 0) S.1 S.2.1 dX0_open_159 (by decide) ?_
      refine pDa_shutOut S hK hW dX0_open_160 (fun H locs δ_7 eδ_7 hW => ?_)
      have h := nm_to eδ_7 h
      refine lv_aload_n S.1 S.2.1 dX0_open_163 rfl (lv_at hl 0 rfl) ?_
      refine lv_iconst (v := 0) S.1 S.2.1 dX0_open_164 (by decide) ?_
      refine pDa_thrownOut S hK hW dX0_open_165 (fun H locs δ_8 eδ_8 hW => ?_)
      have h := nm_to eδ_8 h
      obtain rfl := pr1 h
      exact hQ _ _ _ _ dX0_open_168 hW
    · have h := ite_f c_1 h
      refine lv_aload_n S.1 S.2.1 dX0_open_72 rfl (lv_at hl 0 rfl) ?_
      refine gDa_states S hK hW dX0_open_73 ?_
      refine lv_iload S.1 S.2.1 dX0_open_76 (lv_at hl 2 rfl) ?_
      refine lv_iconst (v := 0) S.1 S.2.1 dX0_open_78 (by decide) ?_
      obtain ⟨hi_9, h⟩ := gI_some h
      refine sDa_states S hK hW hi_9 dX0_open_79 (fun H locs δ_10 eδ_10 hW => ?_)
      have h := nm_to eδ_10 h
      refine lv_aload_n S.1 S.2.1 dX0_open_80 rfl (lv_at hl 0 rfl) ?_
      refine gDa_places S hK hW dX0_open_81 ?_
      refine lv_iload S.1 S.2.1 dX0_open_84 (lv_at hl 2 rfl) ?_
      refine lv_iconst (v := -1) S.1 S.2.1 dX0_open_86 (by decide) ?_
      obtain ⟨hi_11, h⟩ := gI_some h
      refine sDa_places S hK hW hi_11 dX0_open_87 (fun H locs δ_12 eδ_12 hW => ?_)
      have h := nm_to eδ_12 h
      refine lv_aload_n S.1 S.2.1 dX0_open_88 rfl (lv_at hl 0 rfl) ?_
      refine gDa_since S hK hW dX0_open_89 ?_
      refine lv_iload S.1 S.2.1 dX0_open_92 (lv_at hl 2 rfl) ?_
      refine lv_iconst (v := 0) S.1 S.2.1 dX0_open_94 (by decide) ?_
      obtain ⟨hi_13, h⟩ := gI_some h
      refine sDa_since S hK hW hi_13 dX0_open_95 (fun H locs δ_14 eδ_14 hW => ?_)
      have h := nm_to eδ_14 h
      refine lv_aload_n S.1 S.2.1 dX0_open_96 rfl (lv_at hl 0 rfl) ?_
      refine gDa_minutesSat S hK hW dX0_open_97 ?_
      refine lv_iload S.1 S.2.1 dX0_open_100 (lv_at hl 2 rfl) ?_
      refine lv_iconst (v := 0) S.1 S.2.1 dX0_open_102 (by decide) ?_
      obtain ⟨hi_15, h⟩ := gI_some h
      refine sDa_minutesSat S hK hW hi_15 dX0_open_103 (fun H locs δ_16 eδ_16 hW => ?_)
      have h := nm_to eδ_16 h
      refine lv_aload_n S.1 S.2.1 dX0_open_104 rfl (lv_at hl 0 rfl) ?_
      refine gDa_arrivals S hK hW dX0_open_105 ?_
      refine lv_iload S.1 S.2.1 dX0_open_108 (lv_at hl 2 rfl) ?_
      refine lv_aload_n S.1 S.2.1 dX0_open_110 rfl (lv_at hl 1 rfl) ?_
      refine lv_iload S.1 S.2.1 dX0_open_111 (lv_at hl 2 rfl) ?_
      refine lv_iconst (v := 0) S.1 S.2.1 dX0_open_113 (by decide) ?_
      obtain ⟨r_17, hc_18, h⟩ := cl1_some h
      have hW := kw (w' := (wDa cs a (aR 0) δ_16) ++ ((wRo cs aR ρ) ++ [])) (by simp only [List.append_assoc, List.nil_append, List.append_nil]) hW
      refine kV_i (As := [.int v4, .int (0 : Int32)]) (rest := [.int v4, .ref (a 5)]) S hK hA (z := none) trivial (wDa cs a (aR 0) δ_16) [] hW (cRo_number l D cs aR ρ v4 (0 : Int32) N hc_18) (ci := 2) rfl rfl lk_X0_78 q374 q375 ⟨Nat.le_of_ble_eq_true rfl, Nat.le_of_ble_eq_true rfl⟩ rfl (Nat.le_of_ble_eq_true rfl) hl.1 dX0_open_114 ⟨Nat.zero_le _, Nat.zero_le _⟩ (fun H locs hW => ?_)
      have hW : Wd D A s.heap (wDa cs a (aR 0) δ_16 ++ (wRo cs aR ρ)) H locs := kw (by simp only [List.append_assoc, List.nil_append, List.append_nil]) hW
      obtain ⟨hi_19, h⟩ := gI_some h
      refine sDa_arrivals S hK hW hi_19 dX0_open_117 (fun H locs δ_20 eδ_20 hW => ?_)
      have h := nm_to eδ_20 h
      obtain ⟨x4_21, ex4_21, h⟩ := nm_some h
      refine lv_iinc (v := x4_21) (lv' := [(4, .int x4_21), (0, .ref (a 0)), (1, .ref (aR 0))]) S.1 S.2.1 dX0_open_118 hl (k := 2) rfl (by rw [ex4_21]; rfl) (by decide) rfl (fun ls hl => ?_)
      refine lv_goto (tgt := 65) S.1 S.2.1 dX0_open_121 (by decide) ?_
      exact ih x4_21 δ_20 _ _ _ h hW (lv_sub hl [1, 2, 0] rfl)
set_option maxHeartbeats 4000000 in
set_option maxRecDepth 100000 in
theorem wDa_open_47 {p : Program} {l : Launch} {e : Env} {s : State} {m : MethodId} {args : Array Value} {below : List Frame} {meth : Method} {c : Code} {A : Nat → Prop} {Q : State → Prop} {D : va_G} {cs : Nat → ClassId} {a aR : Nat → Nat} {ρ : St} {δ' : St} {N : Nat} (S : Fx p m c cX0_open 5 s args RX0) (hK : va_K D vwCl (tyL cs) s) (hA : ∀ x, s.heap.size ≤ x → A x) (hQ : ∀ (H : Heap) (locs : List Loc) (pc : Nat) (ls : Array Slot), decode cX0_open pc = .ok (.return_, 1) → Wd D A s.heap (wDa cs a (aR 0) δ' ++ (wRo cs aR ρ)) H locs → W p l e { frames := 1, cells := 0, slots := 0, locals := 23 } s m args below meth c H locs 0 0 Q (F0 m pc ls [])) : ∀ (k1 : Int32) (δ : St) (H : Heap) (locs : List Loc) (ls : Array Slot), fDa_open_47 N ρ k1 δ = some δ' → Wd D A s.heap (wDa cs a (aR 0) δ ++ (wRo cs aR ρ)) H locs → lv_has ls 5 [(0, .ref (a 0)), (1, .ref (aR 0))] → W p l e { frames := 1, cells := 0, slots := 0, locals := 23 } s m args below meth c H locs 0 0 Q (F0 m 47 ls [.int k1, .ref (a 0)]) := by
  intro k1 δ H locs ls h hW hl
  unfold fDa_open_47 at h
  refine pDa_holders S hK hW dX0_open_47 (fun H locs δ_22 eδ_22 hW => ?_)
  have h := nm_to eδ_22 h
  refine lv_aload_n S.1 S.2.1 dX0_open_50 rfl (lv_at hl 0 rfl) ?_
  refine lv_aload_n S.1 S.2.1 dX0_open_51 rfl (lv_at hl 1 rfl) ?_
  obtain ⟨r_23, hc_24, h⟩ := cl1_some h
  have hW := kw (w' := (wDa cs a (aR 0) δ_22) ++ ((wRo cs aR ρ) ++ [])) (by simp only [List.append_assoc, List.nil_append, List.append_nil]) hW
  refine kV_i (As := []) (rest := [.ref (a 0)]) S hK hA (z := none) trivial (wDa cs a (aR 0) δ_22) [] hW (cRo_cardMinutes l D cs aR ρ N hc_24) (ci := 2) rfl rfl lk_X0_68 q410 q411 ⟨Nat.le_of_ble_eq_true rfl, Nat.le_of_ble_eq_true rfl⟩ rfl (Nat.le_of_ble_eq_true rfl) hl.1 dX0_open_52 ⟨Nat.zero_le _, Nat.zero_le _⟩ (fun H locs hW => ?_)
  have hW : Wd D A s.heap (wDa cs a (aR 0) δ_22 ++ (wRo cs aR ρ)) H locs := kw (by simp only [List.append_assoc, List.nil_append, List.append_nil]) hW
  refine lv_aload_n S.1 S.2.1 dX0_open_55 rfl (lv_at hl 1 rfl) ?_
  obtain ⟨r_25, hc_26, h⟩ := cl1_some h
  have hW := kw (w' := (wDa cs a (aR 0) δ_22) ++ ((wRo cs aR ρ) ++ [])) (by simp only [List.append_assoc, List.nil_append, List.append_nil]) hW
  refine kV_i (As := []) (rest := [.int r_23, .ref (a 0)]) S hK hA (z := none) trivial (wDa cs a (aR 0) δ_22) [] hW (cRo_porterMinutes l D cs aR ρ N hc_26) (ci := 2) rfl rfl lk_X0_71 q414 q415 ⟨Nat.le_of_ble_eq_true rfl, Nat.le_of_ble_eq_true rfl⟩ rfl (Nat.le_of_ble_eq_true rfl) hl.1 dX0_open_56 ⟨Nat.zero_le _, Nat.zero_le _⟩ (fun H locs hW => ?_)
  have hW : Wd D A s.heap (wDa cs a (aR 0) δ_22 ++ (wRo cs aR ρ)) H locs := kw (by simp only [List.append_assoc, List.nil_append, List.append_nil]) hW
  obtain ⟨δ_27, hc_28, h⟩ := cl1_some h
  have hW := kw_same hW
  refine kV_v (As := [.int r_23, .int r_25]) (rest := []) S hK hA (z := none) trivial [] [] hW (cDa_useCards l D cs a aR δ_22 ρ r_23 r_25 N hc_28) (ci := 0) rfl rfl lk_X0_74 q418 q419 ⟨Nat.le_of_ble_eq_true rfl, Nat.le_of_ble_eq_true rfl⟩ rfl (Nat.le_of_ble_eq_true rfl) hl.1 dX0_open_59 ⟨Nat.zero_le _, Nat.zero_le _⟩ (fun H locs hW => ?_)
  have hW : Wd D A s.heap (wDa cs a (aR 0) δ_27 ++ (wRo cs aR ρ)) H locs := kw_back hW
  refine lv_iconst (v := 0) S.1 S.2.1 dX0_open_62 (by decide) ?_
  refine lv_istore (lv' := [(4, .int (0 : Int32)), (0, .ref (a 0)), (1, .ref (aR 0))]) S.1 S.2.1 dX0_open_63 hl (by decide) rfl (fun ls hl => ?_)
  exact wDa_open_65 S hK hA hQ N (0 : Int32) δ_27 _ _ _ h hW (lv_sub hl [1, 2, 0] rfl)
set_option maxHeartbeats 4000000 in
set_option maxRecDepth 100000 in
theorem cDa_open (l : Launch) (D : va_G) (cs : Nat → ClassId) (a aR : Nat → Nat) (δ : St) (ρ : St) (dr : Nat) (p0 : Int32) (p1 : Int32) (N : Nat) {δ' : St} (h : fDa_open N p0 p1 ρ δ = some δ') : Kv l D cs none yX0_open cX0_open 5 none 1 23 (wDa cs a dr δ ++ (wRo cs aR ρ)) [.ref (a 0), .ref (aR 0), .int p0, .int p1] (wDa cs a (aR 0) δ' ++ (wRo cs aR ρ)) := by
  refine Kv_of (by decide +kernel) (Nat.le_of_ble_eq_true rfl) (fun p e s m below meth c A S hK hA hZ Q hQ ls hl hW => ?_)
  have hl : lv_has ls 5 [(0, .ref (a 0)), (1, .ref (aR 0)), (2, .int p0), (3, .int p1)] := hl
  unfold fDa_open at h
  refine lv_aload_n S.1 S.2.1 dX0_open_0 rfl (lv_at hl 0 rfl) ?_
  refine lv_aload_n S.1 S.2.1 dX0_open_1 rfl (lv_at hl 1 rfl) ?_
  refine pDa_room S hK hW dX0_open_2 (fun H locs hW => ?_)
  refine lv_aload_n S.1 S.2.1 dX0_open_5 rfl (lv_at hl 0 rfl) ?_
  refine lv_aload_n S.1 S.2.1 dX0_open_6 rfl (lv_at hl 1 rfl) ?_
  obtain ⟨r_29, hc_30, h⟩ := cl1_some h
  have hW := kw (w' := (wDa cs a (aR 0) δ) ++ ((wRo cs aR ρ) ++ [])) (by simp only [List.append_assoc, List.nil_append, List.append_nil]) hW
  refine kV_i (As := []) (rest := [.ref (a 0)]) S hK hA (z := none) trivial (wDa cs a (aR 0) δ) [] hW (cRo_readerCount l D cs aR ρ N hc_30) (ci := 2) rfl rfl lk_X0_40 q358 q359 ⟨Nat.le_of_ble_eq_true rfl, Nat.le_of_ble_eq_true rfl⟩ rfl (Nat.le_of_ble_eq_true rfl) hl.1 dX0_open_7 ⟨Nat.zero_le _, Nat.zero_le _⟩ (fun H locs hW => ?_)
  have hW : Wd D A s.heap (wDa cs a (aR 0) δ ++ (wRo cs aR ρ)) H locs := kw (by simp only [List.append_assoc, List.nil_append, List.append_nil]) hW
  refine lv_bipush (v := 8) S.1 S.2.1 dX0_open_10 (by decide) ?_
  refine va_mmin S.1 S.2.1 (S.2.2.1.trans hl.1.symm) S.2.2.2.1 (S.2.2.2.2 _ q405) (S.2.2.2.2 _ q406) (S.2.2.2.2 _ q48) (S.2.2.2.2 _ q407) (Nat.le_of_ble_eq_true rfl) (Nat.le_of_ble_eq_true rfl) (Nat.zero_le _) (Nat.zero_le _) dX0_open_12 ?_
  refine pDa_readers S hK hW dX0_open_15 (fun H locs δ_31 eδ_31 hW => ?_)
  have h := nm_to eδ_31 h
  refine lv_aload_n S.1 S.2.1 dX0_open_18 rfl (lv_at hl 0 rfl) ?_
  refine lv_aload_n S.1 S.2.1 dX0_open_19 rfl (lv_at hl 1 rfl) ?_
  obtain ⟨r_32, hc_33, h⟩ := cl1_some h
  have hW := kw (w' := (wDa cs a (aR 0) δ_31) ++ ((wRo cs aR ρ) ++ [])) (by simp only [List.append_assoc, List.nil_append, List.append_nil]) hW
  refine kV_i (As := []) (rest := [.ref (a 0)]) S hK hA (z := none) trivial (wDa cs a (aR 0) δ_31) [] hW (cRo_seatCount l D cs aR ρ N hc_33) (ci := 2) rfl rfl lk_X0_56 q354 q355 ⟨Nat.le_of_ble_eq_true rfl, Nat.le_of_ble_eq_true rfl⟩ rfl (Nat.le_of_ble_eq_true rfl) hl.1 dX0_open_20 ⟨Nat.zero_le _, Nat.zero_le _⟩ (fun H locs hW => ?_)
  have hW : Wd D A s.heap (wDa cs a (aR 0) δ_31 ++ (wRo cs aR ρ)) H locs := kw (by simp only [List.append_assoc, List.nil_append, List.append_nil]) hW
  refine lv_bipush (v := 10) S.1 S.2.1 dX0_open_23 (by decide) ?_
  refine va_mmin S.1 S.2.1 (S.2.2.1.trans hl.1.symm) S.2.2.2.1 (S.2.2.2.2 _ q405) (S.2.2.2.2 _ q406) (S.2.2.2.2 _ q48) (S.2.2.2.2 _ q407) (Nat.le_of_ble_eq_true rfl) (Nat.le_of_ble_eq_true rfl) (Nat.zero_le _) (Nat.zero_le _) dX0_open_25 ?_
  refine pDa_seats S hK hW dX0_open_28 (fun H locs δ_34 eδ_34 hW => ?_)
  have h := nm_to eδ_34 h
  refine lv_aload_n S.1 S.2.1 dX0_open_31 rfl (lv_at hl 0 rfl) ?_
  refine lv_iload_n S.1 S.2.1 dX0_open_32 rfl (lv_at hl 2 rfl) ?_
  refine pDa_rule S hK hW dX0_open_33 (fun H locs δ_35 eδ_35 hW => ?_)
  have h := nm_to eδ_35 h
  refine lv_aload_n S.1 S.2.1 dX0_open_36 rfl (lv_at hl 0 rfl) ?_
  refine lv_iload_n S.1 S.2.1 dX0_open_37 rfl (lv_at hl 2 rfl) ?_
  refine lv_iconst (v := 1) S.1 S.2.1 dX0_open_38 (by decide) ?_
  refine lv_icmp_ne (tgt := 46) S.1 S.2.1 dX0_open_39 (by decide) (fun c_36 => ?_) (fun c_36 => ?_)
  · have h := ite_f c_36 h
    refine lv_iload_n S.1 S.2.1 dX0_open_46 rfl (lv_at hl 3 rfl) ?_
    exact wDa_open_47 S hK hA hQ p1 δ_35 _ _ _ h hW (lv_sub hl [0, 1] rfl)
  · have h := ite_t c_36 h
    refine lv_iconst (v := 0) S.1 S.2.1 dX0_open_42 (by decide) ?_
    refine lv_goto (tgt := 47) S.1 S.2.1 dX0_open_43 (by decide) ?_
    exact wDa_open_47 S hK hA hQ (0 : Int32) δ_35 _ _ _ h hW (lv_sub hl [0, 1] rfl)
set_option maxHeartbeats 4000000 in
set_option maxRecDepth 100000 in
theorem wDa_comeLater_69 {p : Program} {l : Launch} {e : Env} {s : State} {m : MethodId} {args : Array Value} {below : List Frame} {meth : Method} {c : Code} {A : Nat → Prop} {Q : State → Prop} {D : va_G} {cs : Nat → ClassId} {a aR : Nat → Nat} {ρ : St} {δ' : St} {N : Nat} (S : Fx p m c cX0_comeLater 6 s args RX0) (hK : va_K D vwCl (tyL cs) s) (hA : ∀ x, s.heap.size ≤ x → A x) (hQ : ∀ (H : Heap) (locs : List Loc) (pc : Nat) (ls : Array Slot), decode cX0_comeLater pc = .ok (.return_, 1) → Wd D A s.heap (wDa cs a (aR 0) δ' ++ (wRo cs aR ρ)) H locs → W p l e { frames := 1, cells := 0, slots := 0, locals := 20 } s m args below meth c H locs 0 0 Q (F0 m pc ls [])) : ∀ (δ : St) (H : Heap) (locs : List Loc) (ls : Array Slot), fDa_comeLater_69 N ρ δ = some δ' → Wd D A s.heap (wDa cs a (aR 0) δ ++ (wRo cs aR ρ)) H locs → lv_has ls 6 [] → W p l e { frames := 1, cells := 0, slots := 0, locals := 20 } s m args below meth c H locs 0 0 Q (F0 m 69 ls []) := by
  intro δ H locs ls h hW hl
  unfold fDa_comeLater_69 at h
  obtain rfl := pr1 h
  exact hQ _ _ _ _ dX0_comeLater_69 hW
set_option maxHeartbeats 4000000 in
set_option maxRecDepth 100000 in
theorem wDa_comeLater_12 {p : Program} {l : Launch} {e : Env} {s : State} {m : MethodId} {args : Array Value} {below : List Frame} {meth : Method} {c : Code} {A : Nat → Prop} {Q : State → Prop} {D : va_G} {cs : Nat → ClassId} {a aR : Nat → Nat} {ρ : St} {δ' : St} {N : Nat} (S : Fx p m c cX0_comeLater 6 s args RX0) (hK : va_K D vwCl (tyL cs) s) (hA : ∀ x, s.heap.size ≤ x → A x) (hQ : ∀ (H : Heap) (locs : List Loc) (pc : Nat) (ls : Array Slot), decode cX0_comeLater pc = .ok (.return_, 1) → Wd D A s.heap (wDa cs a (aR 0) δ' ++ (wRo cs aR ρ)) H locs → W p l e { frames := 1, cells := 0, slots := 0, locals := 20 } s m args below meth c H locs 0 0 Q (F0 m pc ls [])) : ∀ (n_12 : Nat) (v1 : Int32) (v2 : Int32) (v3 : Int32) (δ : St) (H : Heap) (locs : List Loc) (ls : Array Slot), fDa_comeLater_12 N ρ n_12 v1 v2 v3 δ = some δ' → Wd D A s.heap (wDa cs a (aR 0) δ ++ (wRo cs aR ρ)) H locs → lv_has ls 6 [(0, .ref (a 0)), (1, .int v1), (2, .int v2), (3, .int v3)] → W p l e { frames := 1, cells := 0, slots := 0, locals := 20 } s m args below meth c H locs 0 0 Q (F0 m 12 ls []) := by
  intro n_12
  induction n_12 with
  | zero =>
    intro v1 v2 v3 δ H locs ls h
    cases h
  | succ n_12 ih =>
    intro v1 v2 v3 δ H locs ls h hW hl
    unfold fDa_comeLater_12 at h
    refine lv_iload_n S.1 S.2.1 dX0_comeLater_12 rfl (lv_at hl 3 rfl) ?_
    refine lv_aload_n S.1 S.2.1 dX0_comeLater_13 rfl (lv_at hl 0 rfl) ?_
    refine gDa_readers S hK hW dX0_comeLater_14 ?_
    refine lv_icmp_ge (tgt := 69) S.1 S.2.1 dX0_comeLater_17 (by decide) (fun c_1 => ?_) (fun c_1 => ?_)
    · have h := ite_t c_1 h
      exact wDa_comeLater_69 S hK hA hQ δ _ _ _ h hW (lv_sub hl [] rfl)
    · have h := ite_f c_1 h
      refine lv_iload_n S.1 S.2.1 dX0_comeLater_20 rfl (lv_at hl 2 rfl) ?_
      refine lv_if_le (tgt := 69) S.1 S.2.1 dX0_comeLater_21 (by decide) (fun c_2 => ?_) (fun c_2 => ?_)
      · have h := ite_t c_2 h
        exact wDa_comeLater_69 S hK hA hQ δ _ _ _ h hW (lv_sub hl [] rfl)
      · have h := ite_f c_2 h
        refine lv_ldc2 (v := 7919) S.1 S.2.1 S.2.2.2.1 (S.2.2.2.2 _ q646) dX0_comeLater_24 ?_
        refine lv_iload_n S.1 S.2.1 dX0_comeLater_27 rfl (lv_at hl 1 rfl) ?_
        refine lv_i2l S.1 S.2.1 dX0_comeLater_28 rfl ?_
        refine lv_lmul S.1 S.2.1 dX0_comeLater_29 ?_
        refine lv_ldc2 (v := 6151) S.1 S.2.1 S.2.2.2.1 (S.2.2.2.2 _ q647) dX0_comeLater_30 ?_
        refine lv_iload_n S.1 S.2.1 dX0_comeLater_33 rfl (lv_at hl 3 rfl) ?_
        refine lv_i2l S.1 S.2.1 dX0_comeLater_34 rfl ?_
        refine lv_lmul S.1 S.2.1 dX0_comeLater_35 ?_
        refine lv_ladd S.1 S.2.1 dX0_comeLater_36 ?_
        refine lv_lconst (v := 1) S.1 S.2.1 dX0_comeLater_37 (by decide) ?_
        refine lv_ladd S.1 S.2.1 dX0_comeLater_38 ?_
        refine lv_topl (fun x4_3 ex4_3 => ?_)
        have h := nm_to ex4_3 h
        refine lv_lstore (lv' := [(4, .long x4_3), (0, .ref (a 0)), (1, .int v1), (2, .int v2), (3, .int v3)]) S.1 S.2.1 dX0_comeLater_39 hl (by decide) rfl (fun ls hl => ?_)
        refine lv_aload_n S.1 S.2.1 dX0_comeLater_41 rfl (lv_at hl 1 rfl) ?_
        refine gDa_arrivals S hK hW dX0_comeLater_42 ?_
        refine lv_iload_n S.1 S.2.1 dX0_comeLater_45 rfl (lv_at hl 4 rfl) ?_
        refine lv_dup2_11 S.1 S.2.1 dX0_comeLater_46 rfl rfl ?_
        obtain ⟨hi_4, h⟩ := gI_some h
        refine lDa_arrivals S hK hW hi_4 dX0_comeLater_47 ?_
        refine lv_lload S.1 S.2.1 dX0_comeLater_48 (lv_at hl 0 rfl) ?_
        refine lv_lload S.1 S.2.1 dX0_comeLater_50 (lv_at hl 0 rfl) ?_
        refine lv_lmul S.1 S.2.1 dX0_comeLater_52 ?_
        refine lv_ldc2 (v := 65521) S.1 S.2.1 S.2.2.2.1 (S.2.2.2.2 _ q648) dX0_comeLater_53 ?_
        refine lv_lrem S.1 S.2.1 dX0_comeLater_56 (by decide) ?_
        refine lv_iload_n S.1 S.2.1 dX0_comeLater_57 rfl (lv_at hl 3 rfl) ?_
        refine lv_i2l S.1 S.2.1 dX0_comeLater_58 rfl ?_
        obtain ⟨hz_5, h⟩ := gZL_some h
        refine lv_lrem S.1 S.2.1 dX0_comeLater_59 hz_5 ?_
        refine lv_l2i S.1 S.2.1 dX0_comeLater_60 rfl ?_
        refine lv_iadd S.1 S.2.1 dX0_comeLater_61 ?_
        obtain ⟨hi_6, h⟩ := gI_some h
        refine sDa_arrivals S hK hW hi_6 dX0_comeLater_62 (fun H locs δ_7 eδ_7 hW => ?_)
        have h := nm_to eδ_7 h
        obtain ⟨x3_8, ex3_8, h⟩ := nm_some h
        refine lv_iinc (v := x3_8) (lv' := [(3, .int x3_8), (4, .long x4_3), (0, .ref (a 0)), (1, .int v1), (2, .int v2)]) S.1 S.2.1 dX0_comeLater_63 hl (k := 4) rfl (by rw [ex3_8]; rfl) (by decide) rfl (fun ls hl => ?_)
        refine lv_goto (tgt := 12) S.1 S.2.1 dX0_comeLater_66 (by decide) ?_
        exact ih v1 v2 x3_8 δ_7 _ _ _ h hW (lv_sub hl [2, 3, 4, 0] rfl)
set_option maxHeartbeats 4000000 in
set_option maxRecDepth 100000 in
theorem cDa_comeLater (l : Launch) (D : va_G) (cs : Nat → ClassId) (a aR : Nat → Nat) (δ : St) (ρ : St) (p0 : Int32) (N : Nat) {δ' : St} (h : fDa_comeLater N p0 ρ δ = some δ') : Kv l D cs none yX0_comeLater cX0_comeLater 6 none 1 20 (wDa cs a (aR 0) δ ++ (wRo cs aR ρ)) [.ref (a 0), .int p0] (wDa cs a (aR 0) δ' ++ (wRo cs aR ρ)) := by
  refine Kv_of (by decide +kernel) (Nat.le_of_ble_eq_true rfl) (fun p e s m below meth c A S hK hA hZ Q hQ ls hl hW => ?_)
  have hl : lv_has ls 6 [(0, .ref (a 0)), (1, .int p0)] := hl
  unfold fDa_comeLater at h
  refine lv_aload_n S.1 S.2.1 dX0_comeLater_0 rfl (lv_at hl 0 rfl) ?_
  refine gDa_room S hK hW dX0_comeLater_1 ?_
  obtain ⟨r_9, hc_10, h⟩ := cl1_some h
  have hW := kw (w' := (wDa cs a (aR 0) δ) ++ ((wRo cs aR ρ) ++ [])) (by simp only [List.append_assoc, List.nil_append, List.append_nil]) hW
  refine kV_i (As := []) (rest := []) S hK hA (z := none) trivial (wDa cs a (aR 0) δ) [] hW (cRo_laterMinutes l D cs aR ρ N hc_10) (ci := 2) rfl rfl lk_X0_106 q643 q644 ⟨Nat.le_of_ble_eq_true rfl, Nat.le_of_ble_eq_true rfl⟩ rfl (Nat.le_of_ble_eq_true rfl) hl.1 dX0_comeLater_4 ⟨Nat.zero_le _, Nat.zero_le _⟩ (fun H locs hW => ?_)
  have hW : Wd D A s.heap (wDa cs a (aR 0) δ ++ (wRo cs aR ρ)) H locs := kw (by simp only [List.append_assoc, List.nil_append, List.append_nil]) hW
  refine lv_iconst (v := 1) S.1 S.2.1 dX0_comeLater_7 (by decide) ?_
  refine lv_iadd S.1 S.2.1 dX0_comeLater_8 ?_
  refine lv_topi (fun x2_11 ex2_11 => ?_)
  have h := nm_to ex2_11 h
  refine lv_istore_n (lv' := [(2, .int x2_11), (0, .ref (a 0)), (1, .int p0)]) S.1 S.2.1 dX0_comeLater_9 rfl hl (by decide) rfl (fun ls hl => ?_)
  refine lv_iconst (v := 0) S.1 S.2.1 dX0_comeLater_10 (by decide) ?_
  refine lv_istore_n (lv' := [(3, .int (0 : Int32)), (2, .int x2_11), (0, .ref (a 0)), (1, .int p0)]) S.1 S.2.1 dX0_comeLater_11 rfl hl (by decide) rfl (fun ls hl => ?_)
  exact wDa_comeLater_12 S hK hA hQ N p0 x2_11 (0 : Int32) δ _ _ _ h hW (lv_sub hl [2, 3, 1, 0] rfl)
set_option maxHeartbeats 4000000 in
set_option maxRecDepth 100000 in
theorem wDa_holderOf_23 {p : Program} {l : Launch} {e : Env} {s : State} {m : MethodId} {args : Array Value} {below : List Frame} {meth : Method} {c : Code} {A : Nat → Prop} {Q : State → Prop} {D : va_G} {cs : Nat → ClassId} {a aR : Nat → Nat} {δ : St} {ρ : St} {r : Int32} {N : Nat} (S : Fx p m c cX0_holderOf 2 s args RX0) (hK : va_K D vwCl (tyL cs) s) (hA : ∀ x, s.heap.size ≤ x → A x) (hQ : ∀ (H : Heap) (locs : List Loc) (pc : Nat) (ls : Array Slot), decode cX0_holderOf pc = .ok (.ireturn, 1) → narrow .int (.int r) = .int r → Wd D A s.heap (wDa cs a (aR 0) δ ++ (wRo cs aR ρ)) H locs → W p l e { frames := 0, cells := 0, slots := 0, locals := 0 } s m args below meth c H locs 0 0 Q (F0 m pc ls [.int r])) : ∀ (k0 : Int32) (H : Heap) (locs : List Loc) (ls : Array Slot), fDa_holderOf_23 N δ k0 = some r → Wd D A s.heap (wDa cs a (aR 0) δ ++ (wRo cs aR ρ)) H locs → lv_has ls 2 [] → W p l e { frames := 0, cells := 0, slots := 0, locals := 0 } s m args below meth c H locs 0 0 Q (F0 m 23 ls [.int k0]) := by
  intro k0 H locs ls h hW hl
  unfold fDa_holderOf_23 at h
  obtain rfl := pr1 h
  exact hQ _ _ _ _ dX0_holderOf_23 rfl hW
set_option maxHeartbeats 4000000 in
set_option maxRecDepth 100000 in
theorem wDa_holderOf_22 {p : Program} {l : Launch} {e : Env} {s : State} {m : MethodId} {args : Array Value} {below : List Frame} {meth : Method} {c : Code} {A : Nat → Prop} {Q : State → Prop} {D : va_G} {cs : Nat → ClassId} {a aR : Nat → Nat} {δ : St} {ρ : St} {r : Int32} {N : Nat} (S : Fx p m c cX0_holderOf 2 s args RX0) (hK : va_K D vwCl (tyL cs) s) (hA : ∀ x, s.heap.size ≤ x → A x) (hQ : ∀ (H : Heap) (locs : List Loc) (pc : Nat) (ls : Array Slot), decode cX0_holderOf pc = .ok (.ireturn, 1) → narrow .int (.int r) = .int r → Wd D A s.heap (wDa cs a (aR 0) δ ++ (wRo cs aR ρ)) H locs → W p l e { frames := 0, cells := 0, slots := 0, locals := 0 } s m args below meth c H locs 0 0 Q (F0 m pc ls [.int r])) : ∀ (H : Heap) (locs : List Loc) (ls : Array Slot), fDa_holderOf_22 N δ = some r → Wd D A s.heap (wDa cs a (aR 0) δ ++ (wRo cs aR ρ)) H locs → lv_has ls 2 [] → W p l e { frames := 0, cells := 0, slots := 0, locals := 0 } s m args below meth c H locs 0 0 Q (F0 m 22 ls []) := by
  intro  H locs ls h hW hl
  unfold fDa_holderOf_22 at h
  refine lv_iconst (v := -1) S.1 S.2.1 dX0_holderOf_22 (by decide) ?_
  exact wDa_holderOf_23 S hK hA hQ (-1 : Int32) _ _ _ h hW (lv_sub hl [] rfl)
set_option maxHeartbeats 4000000 in
set_option maxRecDepth 100000 in
theorem cDa_holderOf (l : Launch) (D : va_G) (cs : Nat → ClassId) (a aR : Nat → Nat) (δ : St) (ρ : St) (p0 : Int32) (N : Nat) {r : Int32} (h : fDa_holderOf N p0 δ = some r) : Ki l D cs none yX0_holderOf cX0_holderOf 2 (some .int) 0 0 (wDa cs a (aR 0) δ ++ (wRo cs aR ρ)) [.ref (a 0), .int p0] r (wDa cs a (aR 0) δ ++ (wRo cs aR ρ)) := by
  refine Ki_of (by decide +kernel) (Nat.le_of_ble_eq_true rfl) (fun p e s m below meth c A S hK hA hZ Q hQ ls hl hW => ?_)
  have hl : lv_has ls 2 [(0, .ref (a 0)), (1, .int p0)] := hl
  unfold fDa_holderOf at h
  refine lv_iload_n S.1 S.2.1 dX0_holderOf_0 rfl (lv_at hl 1 rfl) ?_
  refine lv_if_lt (tgt := 22) S.1 S.2.1 dX0_holderOf_1 (by decide) (fun c_1 => ?_) (fun c_1 => ?_)
  · have h := ite_t c_1 h
    exact wDa_holderOf_22 S hK hA hQ _ _ _ h hW (lv_sub hl [] rfl)
  · have h := ite_f c_1 h
    refine lv_iload_n S.1 S.2.1 dX0_holderOf_4 rfl (lv_at hl 1 rfl) ?_
    refine lv_aload_n S.1 S.2.1 dX0_holderOf_5 rfl (lv_at hl 0 rfl) ?_
    refine gDa_seatHolders S hK hW dX0_holderOf_6 ?_
    refine nDa_seatHolders S hK hW dX0_holderOf_9 ?_
    refine lv_icmp_ge (tgt := 22) S.1 S.2.1 dX0_holderOf_10 (by decide) (fun c_2 => ?_) (fun c_2 => ?_)
    · have h := ite_t c_2 h
      exact wDa_holderOf_22 S hK hA hQ _ _ _ h hW (lv_sub hl [] rfl)
    · have h := ite_f c_2 h
      refine lv_aload_n S.1 S.2.1 dX0_holderOf_13 rfl (lv_at hl 0 rfl) ?_
      refine gDa_seatHolders S hK hW dX0_holderOf_14 ?_
      refine lv_iload_n S.1 S.2.1 dX0_holderOf_17 rfl (lv_at hl 1 rfl) ?_
      obtain ⟨hi_3, h⟩ := gI_some h
      refine lDa_seatHolders S hK hW hi_3 dX0_holderOf_18 ?_
      refine lv_goto (tgt := 23) S.1 S.2.1 dX0_holderOf_19 (by decide) ?_
      exact wDa_holderOf_23 S hK hA hQ (δ 7 p0.toNatClampNeg) _ _ _ h hW (lv_sub hl [] rfl)
set_option maxHeartbeats 4000000 in
set_option maxRecDepth 100000 in
theorem wDa_sitDown_13 {p : Program} {l : Launch} {e : Env} {s : State} {m : MethodId} {args : Array Value} {below : List Frame} {meth : Method} {c : Code} {A : Nat → Prop} {Q : State → Prop} {D : va_G} {cs : Nat → ClassId} {a aR : Nat → Nat} {ρ : St} {δ' : St} {N : Nat} (S : Fx p m c cX0_sitDown 3 s args RX0) (hK : va_K D vwCl (tyL cs) s) (hA : ∀ x, s.heap.size ≤ x → A x) (hQ : ∀ (H : Heap) (locs : List Loc) (pc : Nat) (ls : Array Slot), decode cX0_sitDown pc = .ok (.return_, 1) → Wd D A s.heap (wDa cs a (aR 0) δ' ++ (wRo cs aR ρ)) H locs → W p l e { frames := 0, cells := 0, slots := 0, locals := 0 } s m args below meth c H locs 0 0 Q (F0 m pc ls [])) : ∀ (δ : St) (H : Heap) (locs : List Loc) (ls : Array Slot), fDa_sitDown_13 N δ = some δ' → Wd D A s.heap (wDa cs a (aR 0) δ ++ (wRo cs aR ρ)) H locs → lv_has ls 3 [] → W p l e { frames := 0, cells := 0, slots := 0, locals := 0 } s m args below meth c H locs 0 0 Q (F0 m 13 ls []) := by
  intro δ H locs ls h hW hl
  unfold fDa_sitDown_13 at h
  obtain rfl := pr1 h
  exact hQ _ _ _ _ dX0_sitDown_13 hW
set_option maxHeartbeats 4000000 in
set_option maxRecDepth 100000 in
theorem cDa_sitDown (l : Launch) (D : va_G) (cs : Nat → ClassId) (a aR : Nat → Nat) (δ : St) (ρ : St) (p0 : Int32) (p1 : Int32) (N : Nat) {δ' : St} (h : fDa_sitDown N p0 p1 δ = some δ') : Kv l D cs none yX0_sitDown cX0_sitDown 3 none 0 0 (wDa cs a (aR 0) δ ++ (wRo cs aR ρ)) [.ref (a 0), .int p0, .int p1] (wDa cs a (aR 0) δ' ++ (wRo cs aR ρ)) := by
  refine Kv_of (by decide +kernel) (Nat.le_of_ble_eq_true rfl) (fun p e s m below meth c A S hK hA hZ Q hQ ls hl hW => ?_)
  have hl : lv_has ls 3 [(0, .ref (a 0)), (1, .int p0), (2, .int p1)] := hl
  unfold fDa_sitDown at h
  refine lv_iload_n S.1 S.2.1 dX0_sitDown_0 rfl (lv_at hl 2 rfl) ?_
  refine lv_if_lt (tgt := 13) S.1 S.2.1 dX0_sitDown_1 (by decide) (fun c_1 => ?_) (fun c_1 => ?_)
  · have h := ite_t c_1 h
    exact wDa_sitDown_13 S hK hA hQ δ _ _ _ h hW (lv_sub hl [] rfl)
  · have h := ite_f c_1 h
    refine lv_iload_n S.1 S.2.1 dX0_sitDown_4 rfl (lv_at hl 2 rfl) ?_
    refine lv_aload_n S.1 S.2.1 dX0_sitDown_5 rfl (lv_at hl 0 rfl) ?_
    refine gDa_sitters S hK hW dX0_sitDown_6 ?_
    refine nDa_sitters S hK hW dX0_sitDown_9 ?_
    refine lv_icmp_lt (tgt := 14) S.1 S.2.1 dX0_sitDown_10 (by decide) (fun c_2 => ?_) (fun c_2 => ?_)
    · have h := ite_t c_2 h
      refine lv_aload_n S.1 S.2.1 dX0_sitDown_14 rfl (lv_at hl 0 rfl) ?_
      refine gDa_sitters S hK hW dX0_sitDown_15 ?_
      refine lv_iload_n S.1 S.2.1 dX0_sitDown_18 rfl (lv_at hl 2 rfl) ?_
      refine lv_iload_n S.1 S.2.1 dX0_sitDown_19 rfl (lv_at hl 1 rfl) ?_
      obtain ⟨hi_3, h⟩ := gI_some h
      refine sDa_sitters S hK hW hi_3 dX0_sitDown_20 (fun H locs δ_4 eδ_4 hW => ?_)
      have h := nm_to eδ_4 h
      refine lv_aload_n S.1 S.2.1 dX0_sitDown_21 rfl (lv_at hl 0 rfl) ?_
      refine gDa_seatHolders S hK hW dX0_sitDown_22 ?_
      refine lv_iload_n S.1 S.2.1 dX0_sitDown_25 rfl (lv_at hl 2 rfl) ?_
      refine lv_iconst (v := -1) S.1 S.2.1 dX0_sitDown_26 (by decide) ?_
      obtain ⟨hi_5, h⟩ := gI_some h
      refine sDa_seatHolders S hK hW hi_5 dX0_sitDown_27 (fun H locs δ_6 eδ_6 hW => ?_)
      have h := nm_to eδ_6 h
      refine lv_aload_n S.1 S.2.1 dX0_sitDown_28 rfl (lv_at hl 0 rfl) ?_
      refine gDa_places S hK hW dX0_sitDown_29 ?_
      refine lv_iload_n S.1 S.2.1 dX0_sitDown_32 rfl (lv_at hl 1 rfl) ?_
      refine lv_iload_n S.1 S.2.1 dX0_sitDown_33 rfl (lv_at hl 2 rfl) ?_
      obtain ⟨hi_7, h⟩ := gI_some h
      refine sDa_places S hK hW hi_7 dX0_sitDown_34 (fun H locs δ_8 eδ_8 hW => ?_)
      have h := nm_to eδ_8 h
      refine lv_aload_n S.1 S.2.1 dX0_sitDown_35 rfl (lv_at hl 0 rfl) ?_
      refine gDa_states S hK hW dX0_sitDown_36 ?_
      refine lv_iload_n S.1 S.2.1 dX0_sitDown_39 rfl (lv_at hl 1 rfl) ?_
      refine lv_iconst (v := 2) S.1 S.2.1 dX0_sitDown_40 (by decide) ?_
      obtain ⟨hi_9, h⟩ := gI_some h
      refine sDa_states S hK hW hi_9 dX0_sitDown_41 (fun H locs δ_10 eδ_10 hW => ?_)
      have h := nm_to eδ_10 h
      obtain rfl := pr1 h
      exact hQ _ _ _ _ dX0_sitDown_42 hW
    · have h := ite_f c_2 h
      exact wDa_sitDown_13 S hK hA hQ δ _ _ _ h hW (lv_sub hl [] rfl)
set_option maxHeartbeats 4000000 in
set_option maxRecDepth 100000 in
theorem wDa_comeBack_99 {p : Program} {l : Launch} {e : Env} {s : State} {m : MethodId} {args : Array Value} {below : List Frame} {meth : Method} {c : Code} {A : Nat → Prop} {Q : State → Prop} {D : va_G} {cs : Nat → ClassId} {a aR : Nat → Nat} {ρ : St} {δ' : St} {N : Nat} (S : Fx p m c cX0_comeBack 4 s args RX0) (hK : va_K D vwCl (tyL cs) s) (hA : ∀ x, s.heap.size ≤ x → A x) (hQ : ∀ (H : Heap) (locs : List Loc) (pc : Nat) (ls : Array Slot), decode cX0_comeBack pc = .ok (.return_, 1) → Wd D A s.heap (wDa cs a (aR 0) δ' ++ (wRo cs aR ρ)) H locs → W p l e { frames := 1, cells := 0, slots := 0, locals := 23 } s m args below meth c H locs 0 0 Q (F0 m pc ls [])) {k_2 : Int32 → Int32 → St → Option (St)} (hk_2 : ∀ (v1 : Int32) (v2 : Int32) (δ : St) (H : Heap) (locs : List Loc) (ls : Array Slot), k_2 v1 v2 δ = some δ' → Wd D A s.heap (wDa cs a (aR 0) δ ++ (wRo cs aR ρ)) H locs → lv_has ls 4 [(0, .ref (a 0)), (1, .int v1), (2, .int v2)] → W p l e { frames := 1, cells := 0, slots := 0, locals := 23 } s m args below meth c H locs 0 0 Q (F0 m 2 ls [])) : ∀ (v1 : Int32) (v2 : Int32) (δ : St) (H : Heap) (locs : List Loc) (ls : Array Slot), fDa_comeBack_99 k_2 N ρ v1 v2 δ = some δ' → Wd D A s.heap (wDa cs a (aR 0) δ ++ (wRo cs aR ρ)) H locs → lv_has ls 4 [(0, .ref (a 0)), (1, .int v1), (2, .int v2)] → W p l e { frames := 1, cells := 0, slots := 0, locals := 23 } s m args below meth c H locs 0 0 Q (F0 m 99 ls []) := by
  intro v1 v2 δ H locs ls h hW hl
  unfold fDa_comeBack_99 at h
  obtain ⟨x2_1, ex2_1, h⟩ := nm_some h
  refine lv_iinc (v := x2_1) (lv' := [(2, .int x2_1), (0, .ref (a 0)), (1, .int v1)]) S.1 S.2.1 dX0_comeBack_99 hl (k := 2) rfl (by rw [ex2_1]; rfl) (by decide) rfl (fun ls hl => ?_)
  refine lv_goto (tgt := 2) S.1 S.2.1 dX0_comeBack_102 (by decide) ?_
  exact hk_2 v1 x2_1 δ _ _ _ h hW (lv_sub hl [1, 2, 0] rfl)
set_option maxHeartbeats 4000000 in
set_option maxRecDepth 100000 in
theorem wDa_comeBack_2 {p : Program} {l : Launch} {e : Env} {s : State} {m : MethodId} {args : Array Value} {below : List Frame} {meth : Method} {c : Code} {A : Nat → Prop} {Q : State → Prop} {D : va_G} {cs : Nat → ClassId} {a aR : Nat → Nat} {ρ : St} {δ' : St} {N : Nat} (S : Fx p m c cX0_comeBack 4 s args RX0) (hK : va_K D vwCl (tyL cs) s) (hA : ∀ x, s.heap.size ≤ x → A x) (hQ : ∀ (H : Heap) (locs : List Loc) (pc : Nat) (ls : Array Slot), decode cX0_comeBack pc = .ok (.return_, 1) → Wd D A s.heap (wDa cs a (aR 0) δ' ++ (wRo cs aR ρ)) H locs → W p l e { frames := 1, cells := 0, slots := 0, locals := 23 } s m args below meth c H locs 0 0 Q (F0 m pc ls [])) : ∀ (n_2 : Nat) (v1 : Int32) (v2 : Int32) (δ : St) (H : Heap) (locs : List Loc) (ls : Array Slot), fDa_comeBack_2 N ρ n_2 v1 v2 δ = some δ' → Wd D A s.heap (wDa cs a (aR 0) δ ++ (wRo cs aR ρ)) H locs → lv_has ls 4 [(0, .ref (a 0)), (1, .int v1), (2, .int v2)] → W p l e { frames := 1, cells := 0, slots := 0, locals := 23 } s m args below meth c H locs 0 0 Q (F0 m 2 ls []) := by
  intro n_2
  induction n_2 with
  | zero =>
    intro v1 v2 δ H locs ls h
    cases h
  | succ n_2 ih =>
    intro v1 v2 δ H locs ls h hW hl
    unfold fDa_comeBack_2 at h
    refine lv_iload_n S.1 S.2.1 dX0_comeBack_2 rfl (lv_at hl 2 rfl) ?_
    refine lv_aload_n S.1 S.2.1 dX0_comeBack_3 rfl (lv_at hl 0 rfl) ?_
    refine gDa_readers S hK hW dX0_comeBack_4 ?_
    refine lv_icmp_ge (tgt := 105) S.1 S.2.1 dX0_comeBack_7 (by decide) (fun c_2 => ?_) (fun c_2 => ?_)
    · have h := ite_t c_2 h
      obtain rfl := pr1 h
      exact hQ _ _ _ _ dX0_comeBack_105 hW
    · have h := ite_f c_2 h
      refine lv_aload_n S.1 S.2.1 dX0_comeBack_10 rfl (lv_at hl 0 rfl) ?_
      refine gDa_states S hK hW dX0_comeBack_11 ?_
      refine lv_iload_n S.1 S.2.1 dX0_comeBack_14 rfl (lv_at hl 2 rfl) ?_
      obtain ⟨hi_3, h⟩ := gI_some h
      refine lDa_states S hK hW hi_3 dX0_comeBack_15 ?_
      refine lv_iconst (v := 3) S.1 S.2.1 dX0_comeBack_16 (by decide) ?_
      refine lv_icmp_ne (tgt := 99) S.1 S.2.1 dX0_comeBack_17 (by decide) (fun c_4 => ?_) (fun c_4 => ?_)
      · have h := ite_f c_4 h
        exact wDa_comeBack_99 S hK hA hQ ih v1 v2 δ _ _ _ h hW (lv_sub hl [0, 1, 2] rfl)
      · have h := ite_t c_4 h
        refine lv_iload_n S.1 S.2.1 dX0_comeBack_20 rfl (lv_at hl 1 rfl) ?_
        refine lv_aload_n S.1 S.2.1 dX0_comeBack_21 rfl (lv_at hl 0 rfl) ?_
        refine gDa_since S hK hW dX0_comeBack_22 ?_
        refine lv_iload_n S.1 S.2.1 dX0_comeBack_25 rfl (lv_at hl 2 rfl) ?_
        obtain ⟨hi_5, h⟩ := gI_some h
        refine lDa_since S hK hW hi_5 dX0_comeBack_26 ?_
        refine lv_isub S.1 S.2.1 dX0_comeBack_27 ?_
        refine lv_aload_n S.1 S.2.1 dX0_comeBack_28 rfl (lv_at hl 0 rfl) ?_
        refine gDa_room S hK hW dX0_comeBack_29 ?_
        refine lv_iload_n S.1 S.2.1 dX0_comeBack_32 rfl (lv_at hl 2 rfl) ?_
        refine lv_iconst (v := 3) S.1 S.2.1 dX0_comeBack_33 (by decide) ?_
        obtain ⟨r_6, hc_7, h⟩ := cl1_some h
        have hW := kw (w' := (wDa cs a (aR 0) δ) ++ ((wRo cs aR ρ) ++ [])) (by simp only [List.append_assoc, List.nil_append, List.append_nil]) hW
        refine kV_i (As := [.int v2, .int (3 : Int32)]) (rest := [.int (v1 - (δ 3 v2.toNatClampNeg))]) S hK hA (z := none) trivial (wDa cs a (aR 0) δ) [] hW (cRo_number l D cs aR ρ v2 (3 : Int32) N hc_7) (ci := 2) rfl rfl lk_X0_78 q374 q375 ⟨Nat.le_of_ble_eq_true rfl, Nat.le_of_ble_eq_true rfl⟩ rfl (Nat.le_of_ble_eq_true rfl) hl.1 dX0_comeBack_34 ⟨Nat.zero_le _, Nat.zero_le _⟩ (fun H locs hW => ?_)
        have hW : Wd D A s.heap (wDa cs a (aR 0) δ ++ (wRo cs aR ρ)) H locs := kw (by simp only [List.append_assoc, List.nil_append, List.append_nil]) hW
        refine lv_icmp_eq (tgt := 43) S.1 S.2.1 dX0_comeBack_37 (by decide) (fun c_8 => ?_) (fun c_8 => ?_)
        · have h := ite_t c_8 h
          refine lv_aload_n S.1 S.2.1 dX0_comeBack_43 rfl (lv_at hl 0 rfl) ?_
          refine gDa_places S hK hW dX0_comeBack_44 ?_
          refine lv_iload_n S.1 S.2.1 dX0_comeBack_47 rfl (lv_at hl 2 rfl) ?_
          obtain ⟨hi_9, h⟩ := gI_some h
          refine lDa_places S hK hW hi_9 dX0_comeBack_48 ?_
          refine lv_topi (fun x3_10 ex3_10 => ?_)
          have h := nm_to ex3_10 h
          refine lv_istore_n (lv' := [(3, .int x3_10), (0, .ref (a 0)), (1, .int v1), (2, .int v2)]) S.1 S.2.1 dX0_comeBack_49 rfl hl (by decide) rfl (fun ls hl => ?_)
          refine lv_aload_n S.1 S.2.1 dX0_comeBack_50 rfl (lv_at hl 1 rfl) ?_
          refine lv_iload_n S.1 S.2.1 dX0_comeBack_51 rfl (lv_at hl 0 rfl) ?_
          obtain ⟨r_11, hc_12, h⟩ := cl1_some h
          have hW := kw_same hW
          refine kV_i (As := [.int x3_10]) (rest := []) S hK hA (z := none) trivial [] [] hW (cDa_holderOf l D cs a aR δ ρ x3_10 N hc_12) (ci := 0) rfl rfl lk_X0_131 q434 q435 ⟨Nat.le_of_ble_eq_true rfl, Nat.le_of_ble_eq_true rfl⟩ rfl (Nat.le_of_ble_eq_true rfl) hl.1 dX0_comeBack_52 ⟨Nat.zero_le _, Nat.zero_le _⟩ (fun H locs hW => ?_)
          have hW : Wd D A s.heap (wDa cs a (aR 0) δ ++ (wRo cs aR ρ)) H locs := kw_back hW
          refine lv_iload_n S.1 S.2.1 dX0_comeBack_55 rfl (lv_at hl 3 rfl) ?_
          refine lv_icmp_ne (tgt := 68) S.1 S.2.1 dX0_comeBack_56 (by decide) (fun c_13 => ?_) (fun c_13 => ?_)
          · have h := ite_f c_13 h
            refine lv_aload_n S.1 S.2.1 dX0_comeBack_68 rfl (lv_at hl 1 rfl) ?_
            refine gDa_states S hK hW dX0_comeBack_69 ?_
            refine lv_iload_n S.1 S.2.1 dX0_comeBack_72 rfl (lv_at hl 3 rfl) ?_
            refine lv_iconst (v := 1) S.1 S.2.1 dX0_comeBack_73 (by decide) ?_
            obtain ⟨hi_14, h⟩ := gI_some h
            refine sDa_states S hK hW hi_14 dX0_comeBack_74 (fun H locs δ_15 eδ_15 hW => ?_)
            have h := nm_to eδ_15 h
            refine lv_aload_n S.1 S.2.1 dX0_comeBack_75 rfl (lv_at hl 1 rfl) ?_
            refine gDa_since S hK hW dX0_comeBack_76 ?_
            refine lv_iload_n S.1 S.2.1 dX0_comeBack_79 rfl (lv_at hl 3 rfl) ?_
            refine lv_iload_n S.1 S.2.1 dX0_comeBack_80 rfl (lv_at hl 2 rfl) ?_
            obtain ⟨hi_16, h⟩ := gI_some h
            refine sDa_since S hK hW hi_16 dX0_comeBack_81 (fun H locs δ_17 eδ_17 hW => ?_)
            have h := nm_to eδ_17 h
            refine lv_aload_n S.1 S.2.1 dX0_comeBack_82 rfl (lv_at hl 1 rfl) ?_
            refine lv_dup S.1 S.2.1 dX0_comeBack_83 rfl ?_
            refine gDa_thrownOut S hK hW dX0_comeBack_84 ?_
            refine lv_aload_n S.1 S.2.1 dX0_comeBack_87 rfl (lv_at hl 1 rfl) ?_
            refine gDa_holders S hK hW dX0_comeBack_88 ?_
            refine lv_iconst (v := 1) S.1 S.2.1 dX0_comeBack_91 (by decide) ?_
            refine lv_iload_n S.1 S.2.1 dX0_comeBack_92 rfl (lv_at hl 3 rfl) ?_
            refine lv_ishl S.1 S.2.1 dX0_comeBack_93 ?_
            refine lv_iand S.1 S.2.1 dX0_comeBack_94 ?_
            refine lv_ior S.1 S.2.1 dX0_comeBack_95 ?_
            refine pDa_thrownOut S hK hW dX0_comeBack_96 (fun H locs δ_18 eδ_18 hW => ?_)
            have h := nm_to eδ_18 h
            exact wDa_comeBack_99 S hK hA hQ ih v1 v2 δ_18 _ _ _ h hW (lv_sub hl [1, 2, 3] rfl)
          · have h := ite_t c_13 h
            refine lv_aload_n S.1 S.2.1 dX0_comeBack_59 rfl (lv_at hl 1 rfl) ?_
            refine lv_iload_n S.1 S.2.1 dX0_comeBack_60 rfl (lv_at hl 3 rfl) ?_
            refine lv_iload_n S.1 S.2.1 dX0_comeBack_61 rfl (lv_at hl 0 rfl) ?_
            obtain ⟨δ_19, hc_20, h⟩ := cl1_some h
            have hW := kw_same hW
            refine kV_v (As := [.int v2, .int x3_10]) (rest := []) S hK hA (z := none) trivial [] [] hW (cDa_sitDown l D cs a aR δ ρ v2 x3_10 N hc_20) (ci := 0) rfl rfl lk_X0_135 q439 q6 ⟨Nat.le_of_ble_eq_true rfl, Nat.le_of_ble_eq_true rfl⟩ rfl (Nat.le_of_ble_eq_true rfl) hl.1 dX0_comeBack_62 ⟨Nat.zero_le _, Nat.zero_le _⟩ (fun H locs hW => ?_)
            have hW : Wd D A s.heap (wDa cs a (aR 0) δ_19 ++ (wRo cs aR ρ)) H locs := kw_back hW
            refine lv_goto (tgt := 99) S.1 S.2.1 dX0_comeBack_65 (by decide) ?_
            exact wDa_comeBack_99 S hK hA hQ ih v1 v2 δ_19 _ _ _ h hW (lv_sub hl [1, 2, 3] rfl)
        · have h := ite_f c_8 h
          refine lv_goto (tgt := 99) S.1 S.2.1 dX0_comeBack_40 (by decide) ?_
          exact wDa_comeBack_99 S hK hA hQ ih v1 v2 δ _ _ _ h hW (lv_sub hl [0, 1, 2] rfl)
set_option maxHeartbeats 4000000 in
set_option maxRecDepth 100000 in
theorem cDa_comeBack (l : Launch) (D : va_G) (cs : Nat → ClassId) (a aR : Nat → Nat) (δ : St) (ρ : St) (p0 : Int32) (N : Nat) {δ' : St} (h : fDa_comeBack N p0 ρ δ = some δ') : Kv l D cs none yX0_comeBack cX0_comeBack 4 none 1 23 (wDa cs a (aR 0) δ ++ (wRo cs aR ρ)) [.ref (a 0), .int p0] (wDa cs a (aR 0) δ' ++ (wRo cs aR ρ)) := by
  refine Kv_of (by decide +kernel) (Nat.le_of_ble_eq_true rfl) (fun p e s m below meth c A S hK hA hZ Q hQ ls hl hW => ?_)
  have hl : lv_has ls 4 [(0, .ref (a 0)), (1, .int p0)] := hl
  unfold fDa_comeBack at h
  refine lv_iconst (v := 0) S.1 S.2.1 dX0_comeBack_0 (by decide) ?_
  refine lv_istore_n (lv' := [(2, .int (0 : Int32)), (0, .ref (a 0)), (1, .int p0)]) S.1 S.2.1 dX0_comeBack_1 rfl hl (by decide) rfl (fun ls hl => ?_)
  exact wDa_comeBack_2 S hK hA hQ N p0 (0 : Int32) δ _ _ _ h hW (lv_sub hl [1, 2, 0] rfl)
set_option maxHeartbeats 4000000 in
set_option maxRecDepth 100000 in
theorem wDa_countSeats_50 {p : Program} {l : Launch} {e : Env} {s : State} {m : MethodId} {args : Array Value} {below : List Frame} {meth : Method} {c : Code} {A : Nat → Prop} {Q : State → Prop} {D : va_G} {cs : Nat → ClassId} {a aR : Nat → Nat} {ρ : St} {δ' : St} {N : Nat} (S : Fx p m c cX0_countSeats 4 s args RX0) (hK : va_K D vwCl (tyL cs) s) (hA : ∀ x, s.heap.size ≤ x → A x) (hQ : ∀ (H : Heap) (locs : List Loc) (pc : Nat) (ls : Array Slot), decode cX0_countSeats pc = .ok (.return_, 1) → Wd D A s.heap (wDa cs a (aR 0) δ' ++ (wRo cs aR ρ)) H locs → W p l e { frames := 0, cells := 0, slots := 0, locals := 0 } s m args below meth c H locs 0 0 Q (F0 m pc ls [])) {k_4 : Int32 → Int32 → Int32 → St → Option (St)} (hk_4 : ∀ (v1 : Int32) (v2 : Int32) (v3 : Int32) (δ : St) (H : Heap) (locs : List Loc) (ls : Array Slot), k_4 v1 v2 v3 δ = some δ' → Wd D A s.heap (wDa cs a (aR 0) δ ++ (wRo cs aR ρ)) H locs → lv_has ls 4 [(0, .ref (a 0)), (1, .int v1), (2, .int v2), (3, .int v3)] → W p l e { frames := 0, cells := 0, slots := 0, locals := 0 } s m args below meth c H locs 0 0 Q (F0 m 4 ls [])) : ∀ (v1 : Int32) (v2 : Int32) (v3 : Int32) (k1 : Int32) (k2 : Int32) (δ : St) (H : Heap) (locs : List Loc) (ls : Array Slot), fDa_countSeats_50 k_4 N v1 v2 v3 k1 k2 δ = some δ' → Wd D A s.heap (wDa cs a (aR 0) δ ++ (wRo cs aR ρ)) H locs → lv_has ls 4 [(0, .ref (a 0)), (1, .int v1), (2, .int v2), (3, .int v3)] → W p l e { frames := 0, cells := 0, slots := 0, locals := 0 } s m args below meth c H locs 0 0 Q (F0 m 50 ls [.int k2, .int k1, .ref (a 0)]) := by
  intro v1 v2 v3 k1 k2 δ H locs ls h hW hl
  unfold fDa_countSeats_50 at h
  refine lv_iadd S.1 S.2.1 dX0_countSeats_50 ?_
  refine pDa_empty S hK hW dX0_countSeats_51 (fun H locs δ_1 eδ_1 hW => ?_)
  have h := nm_to eδ_1 h
  obtain ⟨x3_2, ex3_2, h⟩ := nm_some h
  refine lv_iinc (v := x3_2) (lv' := [(3, .int x3_2), (0, .ref (a 0)), (1, .int v1), (2, .int v2)]) S.1 S.2.1 dX0_countSeats_54 hl (k := 3) rfl (by rw [ex3_2]; rfl) (by decide) rfl (fun ls hl => ?_)
  refine lv_goto (tgt := 4) S.1 S.2.1 dX0_countSeats_57 (by decide) ?_
  exact hk_4 v1 v2 x3_2 δ_1 _ _ _ h hW (lv_sub hl [1, 2, 3, 0] rfl)
set_option maxHeartbeats 4000000 in
set_option maxRecDepth 100000 in
theorem wDa_countSeats_28 {p : Program} {l : Launch} {e : Env} {s : State} {m : MethodId} {args : Array Value} {below : List Frame} {meth : Method} {c : Code} {A : Nat → Prop} {Q : State → Prop} {D : va_G} {cs : Nat → ClassId} {a aR : Nat → Nat} {ρ : St} {δ' : St} {N : Nat} (S : Fx p m c cX0_countSeats 4 s args RX0) (hK : va_K D vwCl (tyL cs) s) (hA : ∀ x, s.heap.size ≤ x → A x) (hQ : ∀ (H : Heap) (locs : List Loc) (pc : Nat) (ls : Array Slot), decode cX0_countSeats pc = .ok (.return_, 1) → Wd D A s.heap (wDa cs a (aR 0) δ' ++ (wRo cs aR ρ)) H locs → W p l e { frames := 0, cells := 0, slots := 0, locals := 0 } s m args below meth c H locs 0 0 Q (F0 m pc ls [])) {k_4 : Int32 → Int32 → Int32 → St → Option (St)} (hk_4 : ∀ (v1 : Int32) (v2 : Int32) (v3 : Int32) (δ : St) (H : Heap) (locs : List Loc) (ls : Array Slot), k_4 v1 v2 v3 δ = some δ' → Wd D A s.heap (wDa cs a (aR 0) δ ++ (wRo cs aR ρ)) H locs → lv_has ls 4 [(0, .ref (a 0)), (1, .int v1), (2, .int v2), (3, .int v3)] → W p l e { frames := 0, cells := 0, slots := 0, locals := 0 } s m args below meth c H locs 0 0 Q (F0 m 4 ls [])) : ∀ (v1 : Int32) (v3 : Int32) (k0 : Int32) (k1 : Int32) (δ : St) (H : Heap) (locs : List Loc) (ls : Array Slot), fDa_countSeats_28 k_4 N v1 v3 k0 k1 δ = some δ' → Wd D A s.heap (wDa cs a (aR 0) δ ++ (wRo cs aR ρ)) H locs → lv_has ls 4 [(0, .ref (a 0)), (1, .int v1), (3, .int v3)] → W p l e { frames := 0, cells := 0, slots := 0, locals := 0 } s m args below meth c H locs 0 0 Q (F0 m 28 ls [.int k1, .int k0]) := by
  intro v1 v3 k0 k1 δ H locs ls h hW hl
  unfold fDa_countSeats_28 at h
  refine lv_iadd S.1 S.2.1 dX0_countSeats_28 ?_
  refine lv_topi (fun x2_3 ex2_3 => ?_)
  have h := nm_to ex2_3 h
  refine lv_istore_n (lv' := [(2, .int x2_3), (0, .ref (a 0)), (1, .int v1), (3, .int v3)]) S.1 S.2.1 dX0_countSeats_29 rfl hl (by decide) rfl (fun ls hl => ?_)
  refine lv_aload_n S.1 S.2.1 dX0_countSeats_30 rfl (lv_at hl 1 rfl) ?_
  refine lv_dup S.1 S.2.1 dX0_countSeats_31 rfl ?_
  refine gDa_empty S hK hW dX0_countSeats_32 ?_
  refine lv_aload_n S.1 S.2.1 dX0_countSeats_35 rfl (lv_at hl 1 rfl) ?_
  refine gDa_seatHolders S hK hW dX0_countSeats_36 ?_
  refine lv_iload_n S.1 S.2.1 dX0_countSeats_39 rfl (lv_at hl 3 rfl) ?_
  obtain ⟨hi_4, h⟩ := gI_some h
  refine lDa_seatHolders S hK hW hi_4 dX0_countSeats_40 ?_
  refine lv_iconst (v := -1) S.1 S.2.1 dX0_countSeats_41 (by decide) ?_
  refine lv_icmp_eq (tgt := 49) S.1 S.2.1 dX0_countSeats_42 (by decide) (fun c_5 => ?_) (fun c_5 => ?_)
  · have h := ite_t c_5 h
    refine lv_iconst (v := 0) S.1 S.2.1 dX0_countSeats_49 (by decide) ?_
    exact wDa_countSeats_50 S hK hA hQ hk_4 v1 x2_3 v3 (δ 0 17) (0 : Int32) δ _ _ _ h hW (lv_sub hl [1, 2, 0, 3] rfl)
  · have h := ite_f c_5 h
    refine lv_iconst (v := 1) S.1 S.2.1 dX0_countSeats_45 (by decide) ?_
    refine lv_goto (tgt := 50) S.1 S.2.1 dX0_countSeats_46 (by decide) ?_
    exact wDa_countSeats_50 S hK hA hQ hk_4 v1 x2_3 v3 (δ 0 17) (1 : Int32) δ _ _ _ h hW (lv_sub hl [1, 2, 0, 3] rfl)
set_option maxHeartbeats 4000000 in
set_option maxRecDepth 100000 in
theorem wDa_countSeats_4 {p : Program} {l : Launch} {e : Env} {s : State} {m : MethodId} {args : Array Value} {below : List Frame} {meth : Method} {c : Code} {A : Nat → Prop} {Q : State → Prop} {D : va_G} {cs : Nat → ClassId} {a aR : Nat → Nat} {ρ : St} {δ' : St} {N : Nat} (S : Fx p m c cX0_countSeats 4 s args RX0) (hK : va_K D vwCl (tyL cs) s) (hA : ∀ x, s.heap.size ≤ x → A x) (hQ : ∀ (H : Heap) (locs : List Loc) (pc : Nat) (ls : Array Slot), decode cX0_countSeats pc = .ok (.return_, 1) → Wd D A s.heap (wDa cs a (aR 0) δ' ++ (wRo cs aR ρ)) H locs → W p l e { frames := 0, cells := 0, slots := 0, locals := 0 } s m args below meth c H locs 0 0 Q (F0 m pc ls [])) : ∀ (n_4 : Nat) (v1 : Int32) (v2 : Int32) (v3 : Int32) (δ : St) (H : Heap) (locs : List Loc) (ls : Array Slot), fDa_countSeats_4 N n_4 v1 v2 v3 δ = some δ' → Wd D A s.heap (wDa cs a (aR 0) δ ++ (wRo cs aR ρ)) H locs → lv_has ls 4 [(0, .ref (a 0)), (1, .int v1), (2, .int v2), (3, .int v3)] → W p l e { frames := 0, cells := 0, slots := 0, locals := 0 } s m args below meth c H locs 0 0 Q (F0 m 4 ls []) := by
  intro n_4
  induction n_4 with
  | zero =>
    intro v1 v2 v3 δ H locs ls h
    cases h
  | succ n_4 ih =>
    intro v1 v2 v3 δ H locs ls h hW hl
    unfold fDa_countSeats_4 at h
    refine lv_iload_n S.1 S.2.1 dX0_countSeats_4 rfl (lv_at hl 3 rfl) ?_
    refine lv_aload_n S.1 S.2.1 dX0_countSeats_5 rfl (lv_at hl 0 rfl) ?_
    refine gDa_seats S hK hW dX0_countSeats_6 ?_
    refine lv_icmp_ge (tgt := 60) S.1 S.2.1 dX0_countSeats_9 (by decide) (fun c_6 => ?_) (fun c_6 => ?_)
    · have h := ite_t c_6 h
      refine lv_aload_n S.1 S.2.1 dX0_countSeats_60 rfl (lv_at hl 0 rfl) ?_
      refine gDa_sitting S hK hW dX0_countSeats_61 ?_
      refine lv_iload_n S.1 S.2.1 dX0_countSeats_64 rfl (lv_at hl 1 rfl) ?_
      refine lv_iload_n S.1 S.2.1 dX0_countSeats_65 rfl (lv_at hl 2 rfl) ?_
      obtain ⟨hi_7, h⟩ := gI_some h
      refine sDa_sitting S hK hW hi_7 dX0_countSeats_66 (fun H locs δ_8 eδ_8 hW => ?_)
      have h := nm_to eδ_8 h
      obtain rfl := pr1 h
      exact hQ _ _ _ _ dX0_countSeats_67 hW
    · have h := ite_f c_6 h
      refine lv_iload_n S.1 S.2.1 dX0_countSeats_12 rfl (lv_at hl 2 rfl) ?_
      refine lv_aload_n S.1 S.2.1 dX0_countSeats_13 rfl (lv_at hl 0 rfl) ?_
      refine gDa_sitters S hK hW dX0_countSeats_14 ?_
      refine lv_iload_n S.1 S.2.1 dX0_countSeats_17 rfl (lv_at hl 3 rfl) ?_
      obtain ⟨hi_9, h⟩ := gI_some h
      refine lDa_sitters S hK hW hi_9 dX0_countSeats_18 ?_
      refine lv_iconst (v := -1) S.1 S.2.1 dX0_countSeats_19 (by decide) ?_
      refine lv_icmp_eq (tgt := 27) S.1 S.2.1 dX0_countSeats_20 (by decide) (fun c_10 => ?_) (fun c_10 => ?_)
      · have h := ite_t c_10 h
        refine lv_iconst (v := 0) S.1 S.2.1 dX0_countSeats_27 (by decide) ?_
        exact wDa_countSeats_28 S hK hA hQ ih v1 v3 v2 (0 : Int32) δ _ _ _ h hW (lv_sub hl [0, 1, 3] rfl)
      · have h := ite_f c_10 h
        refine lv_iconst (v := 1) S.1 S.2.1 dX0_countSeats_23 (by decide) ?_
        refine lv_goto (tgt := 28) S.1 S.2.1 dX0_countSeats_24 (by decide) ?_
        exact wDa_countSeats_28 S hK hA hQ ih v1 v3 v2 (1 : Int32) δ _ _ _ h hW (lv_sub hl [0, 1, 3] rfl)
set_option maxHeartbeats 4000000 in
set_option maxRecDepth 100000 in
theorem cDa_countSeats (l : Launch) (D : va_G) (cs : Nat → ClassId) (a aR : Nat → Nat) (δ : St) (ρ : St) (p0 : Int32) (N : Nat) {δ' : St} (h : fDa_countSeats N p0 δ = some δ') : Kv l D cs none yX0_countSeats cX0_countSeats 4 none 0 0 (wDa cs a (aR 0) δ ++ (wRo cs aR ρ)) [.ref (a 0), .int p0] (wDa cs a (aR 0) δ' ++ (wRo cs aR ρ)) := by
  refine Kv_of (by decide +kernel) (Nat.le_of_ble_eq_true rfl) (fun p e s m below meth c A S hK hA hZ Q hQ ls hl hW => ?_)
  have hl : lv_has ls 4 [(0, .ref (a 0)), (1, .int p0)] := hl
  unfold fDa_countSeats at h
  refine lv_iconst (v := 0) S.1 S.2.1 dX0_countSeats_0 (by decide) ?_
  refine lv_istore_n (lv' := [(2, .int (0 : Int32)), (0, .ref (a 0)), (1, .int p0)]) S.1 S.2.1 dX0_countSeats_1 rfl hl (by decide) rfl (fun ls hl => ?_)
  refine lv_iconst (v := 0) S.1 S.2.1 dX0_countSeats_2 (by decide) ?_
  refine lv_istore_n (lv' := [(3, .int (0 : Int32)), (2, .int (0 : Int32)), (0, .ref (a 0)), (1, .int p0)]) S.1 S.2.1 dX0_countSeats_3 rfl hl (by decide) rfl (fun ls hl => ?_)
  exact wDa_countSeats_4 S hK hA hQ N p0 (0 : Int32) (0 : Int32) δ _ _ _ h hW (lv_sub hl [2, 3, 1, 0] rfl)
set_option maxHeartbeats 4000000 in
set_option maxRecDepth 100000 in
theorem wDa_offFor_25 {p : Program} {l : Launch} {e : Env} {s : State} {m : MethodId} {args : Array Value} {below : List Frame} {meth : Method} {c : Code} {A : Nat → Prop} {Q : State → Prop} {D : va_G} {cs : Nat → ClassId} {a aR : Nat → Nat} {δ : St} {ρ : St} {r : Int32} {N : Nat} (S : Fx p m c cX0_offFor 3 s args RX0) (hK : va_K D vwCl (tyL cs) s) (hA : ∀ x, s.heap.size ≤ x → A x) (hQ : ∀ (H : Heap) (locs : List Loc) (pc : Nat) (ls : Array Slot), decode cX0_offFor pc = .ok (.ireturn, 1) → narrow .int (.int r) = .int r → Wd D A s.heap (wDa cs a (aR 0) δ ++ (wRo cs aR ρ)) H locs → W p l e { frames := 0, cells := 0, slots := 0, locals := 0 } s m args below meth c H locs 0 0 Q (F0 m pc ls [.int r])) : ∀ (k0 : Int32) (H : Heap) (locs : List Loc) (ls : Array Slot), fDa_offFor_25 N δ k0 = some r → Wd D A s.heap (wDa cs a (aR 0) δ ++ (wRo cs aR ρ)) H locs → lv_has ls 3 [] → W p l e { frames := 0, cells := 0, slots := 0, locals := 0 } s m args below meth c H locs 0 0 Q (F0 m 25 ls [.int k0]) := by
  intro k0 H locs ls h hW hl
  unfold fDa_offFor_25 at h
  obtain rfl := pr1 h
  exact hQ _ _ _ _ dX0_offFor_25 rfl hW
set_option maxHeartbeats 4000000 in
set_option maxRecDepth 100000 in
theorem wDa_offFor_24 {p : Program} {l : Launch} {e : Env} {s : State} {m : MethodId} {args : Array Value} {below : List Frame} {meth : Method} {c : Code} {A : Nat → Prop} {Q : State → Prop} {D : va_G} {cs : Nat → ClassId} {a aR : Nat → Nat} {δ : St} {ρ : St} {r : Int32} {N : Nat} (S : Fx p m c cX0_offFor 3 s args RX0) (hK : va_K D vwCl (tyL cs) s) (hA : ∀ x, s.heap.size ≤ x → A x) (hQ : ∀ (H : Heap) (locs : List Loc) (pc : Nat) (ls : Array Slot), decode cX0_offFor pc = .ok (.ireturn, 1) → narrow .int (.int r) = .int r → Wd D A s.heap (wDa cs a (aR 0) δ ++ (wRo cs aR ρ)) H locs → W p l e { frames := 0, cells := 0, slots := 0, locals := 0 } s m args below meth c H locs 0 0 Q (F0 m pc ls [.int r])) : ∀ (H : Heap) (locs : List Loc) (ls : Array Slot), fDa_offFor_24 N δ = some r → Wd D A s.heap (wDa cs a (aR 0) δ ++ (wRo cs aR ρ)) H locs → lv_has ls 3 [] → W p l e { frames := 0, cells := 0, slots := 0, locals := 0 } s m args below meth c H locs 0 0 Q (F0 m 24 ls []) := by
  intro  H locs ls h hW hl
  unfold fDa_offFor_24 at h
  refine lv_iconst (v := 0) S.1 S.2.1 dX0_offFor_24 (by decide) ?_
  exact wDa_offFor_25 S hK hA hQ (0 : Int32) _ _ _ h hW (lv_sub hl [] rfl)
set_option maxHeartbeats 4000000 in
set_option maxRecDepth 100000 in
theorem cDa_offFor (l : Launch) (D : va_G) (cs : Nat → ClassId) (a aR : Nat → Nat) (δ : St) (ρ : St) (p0 : Int32) (p1 : Int32) (N : Nat) {r : Int32} (h : fDa_offFor N p0 p1 δ = some r) : Ki l D cs none yX0_offFor cX0_offFor 3 (some .int) 0 0 (wDa cs a (aR 0) δ ++ (wRo cs aR ρ)) [.ref (a 0), .int p0, .int p1] r (wDa cs a (aR 0) δ ++ (wRo cs aR ρ)) := by
  refine Ki_of (by decide +kernel) (Nat.le_of_ble_eq_true rfl) (fun p e s m below meth c A S hK hA hZ Q hQ ls hl hW => ?_)
  have hl : lv_has ls 3 [(0, .ref (a 0)), (1, .int p0), (2, .int p1)] := hl
  unfold fDa_offFor at h
  refine lv_iload_n S.1 S.2.1 dX0_offFor_0 rfl (lv_at hl 1 rfl) ?_
  refine lv_if_lt (tgt := 24) S.1 S.2.1 dX0_offFor_1 (by decide) (fun c_1 => ?_) (fun c_1 => ?_)
  · have h := ite_t c_1 h
    exact wDa_offFor_24 S hK hA hQ _ _ _ h hW (lv_sub hl [] rfl)
  · have h := ite_f c_1 h
    refine lv_iload_n S.1 S.2.1 dX0_offFor_4 rfl (lv_at hl 1 rfl) ?_
    refine lv_aload_n S.1 S.2.1 dX0_offFor_5 rfl (lv_at hl 0 rfl) ?_
    refine gDa_since S hK hW dX0_offFor_6 ?_
    refine nDa_since S hK hW dX0_offFor_9 ?_
    refine lv_icmp_ge (tgt := 24) S.1 S.2.1 dX0_offFor_10 (by decide) (fun c_2 => ?_) (fun c_2 => ?_)
    · have h := ite_t c_2 h
      exact wDa_offFor_24 S hK hA hQ _ _ _ h hW (lv_sub hl [] rfl)
    · have h := ite_f c_2 h
      refine lv_iload_n S.1 S.2.1 dX0_offFor_13 rfl (lv_at hl 2 rfl) ?_
      refine lv_aload_n S.1 S.2.1 dX0_offFor_14 rfl (lv_at hl 0 rfl) ?_
      refine gDa_since S hK hW dX0_offFor_15 ?_
      refine lv_iload_n S.1 S.2.1 dX0_offFor_18 rfl (lv_at hl 1 rfl) ?_
      obtain ⟨hi_3, h⟩ := gI_some h
      refine lDa_since S hK hW hi_3 dX0_offFor_19 ?_
      refine lv_isub S.1 S.2.1 dX0_offFor_20 ?_
      refine lv_goto (tgt := 25) S.1 S.2.1 dX0_offFor_21 (by decide) ?_
      exact wDa_offFor_25 S hK hA hQ (p1 - (δ 3 p0.toNatClampNeg)) _ _ _ h hW (lv_sub hl [] rfl)
set_option maxHeartbeats 4000000 in
set_option maxRecDepth 100000 in
theorem wDa_freeHeld_108 {p : Program} {l : Launch} {e : Env} {s : State} {m : MethodId} {args : Array Value} {below : List Frame} {meth : Method} {c : Code} {A : Nat → Prop} {Q : State → Prop} {D : va_G} {cs : Nat → ClassId} {a aR : Nat → Nat} {ρ : St} {δ' : St} {N : Nat} (S : Fx p m c cX0_freeHeld 6 s args RX0) (hK : va_K D vwCl (tyL cs) s) (hA : ∀ x, s.heap.size ≤ x → A x) (hQ : ∀ (H : Heap) (locs : List Loc) (pc : Nat) (ls : Array Slot), decode cX0_freeHeld pc = .ok (.return_, 1) → Wd D A s.heap (wDa cs a (aR 0) δ' ++ (wRo cs aR ρ)) H locs → W p l e { frames := 1, cells := 0, slots := 0, locals := 22 } s m args below meth c H locs 0 0 Q (F0 m pc ls [])) {k_65 : Int32 → Int32 → Int32 → St → Option (St)} (hk_65 : ∀ (v1 : Int32) (v3 : Int32) (v4 : Int32) (δ : St) (H : Heap) (locs : List Loc) (ls : Array Slot), k_65 v1 v3 v4 δ = some δ' → Wd D A s.heap (wDa cs a (aR 0) δ ++ (wRo cs aR ρ)) H locs → lv_has ls 6 [(0, .ref (a 0)), (1, .int v1), (3, .int v3), (4, .int v4)] → W p l e { frames := 1, cells := 0, slots := 0, locals := 22 } s m args below meth c H locs 0 0 Q (F0 m 65 ls [])) : ∀ (v1 : Int32) (v3 : Int32) (v4 : Int32) (δ : St) (H : Heap) (locs : List Loc) (ls : Array Slot), fDa_freeHeld_108 k_65 N ρ v1 v3 v4 δ = some δ' → Wd D A s.heap (wDa cs a (aR 0) δ ++ (wRo cs aR ρ)) H locs → lv_has ls 6 [(0, .ref (a 0)), (1, .int v1), (3, .int v3), (4, .int v4)] → W p l e { frames := 1, cells := 0, slots := 0, locals := 22 } s m args below meth c H locs 0 0 Q (F0 m 108 ls []) := by
  intro v1 v3 v4 δ H locs ls h hW hl
  unfold fDa_freeHeld_108 at h
  obtain ⟨x4_1, ex4_1, h⟩ := nm_some h
  refine lv_iinc (v := x4_1) (lv' := [(4, .int x4_1), (0, .ref (a 0)), (1, .int v1), (3, .int v3)]) S.1 S.2.1 dX0_freeHeld_108 hl (k := 3) rfl (by rw [ex4_1]; rfl) (by decide) rfl (fun ls hl => ?_)
  refine lv_goto (tgt := 65) S.1 S.2.1 dX0_freeHeld_111 (by decide) ?_
  exact hk_65 v1 v3 x4_1 δ _ _ _ h hW (lv_sub hl [1, 2, 3, 0] rfl)
set_option maxHeartbeats 4000000 in
set_option maxRecDepth 100000 in
theorem wDa_freeHeld_65 {p : Program} {l : Launch} {e : Env} {s : State} {m : MethodId} {args : Array Value} {below : List Frame} {meth : Method} {c : Code} {A : Nat → Prop} {Q : State → Prop} {D : va_G} {cs : Nat → ClassId} {a aR : Nat → Nat} {ρ : St} {δ' : St} {N : Nat} (S : Fx p m c cX0_freeHeld 6 s args RX0) (hK : va_K D vwCl (tyL cs) s) (hA : ∀ x, s.heap.size ≤ x → A x) (hQ : ∀ (H : Heap) (locs : List Loc) (pc : Nat) (ls : Array Slot), decode cX0_freeHeld pc = .ok (.return_, 1) → Wd D A s.heap (wDa cs a (aR 0) δ' ++ (wRo cs aR ρ)) H locs → W p l e { frames := 1, cells := 0, slots := 0, locals := 22 } s m args below meth c H locs 0 0 Q (F0 m pc ls [])) : ∀ (n_65 : Nat) (v1 : Int32) (v3 : Int32) (v4 : Int32) (δ : St) (H : Heap) (locs : List Loc) (ls : Array Slot), fDa_freeHeld_65 N ρ n_65 v1 v3 v4 δ = some δ' → Wd D A s.heap (wDa cs a (aR 0) δ ++ (wRo cs aR ρ)) H locs → lv_has ls 6 [(0, .ref (a 0)), (1, .int v1), (3, .int v3), (4, .int v4)] → W p l e { frames := 1, cells := 0, slots := 0, locals := 22 } s m args below meth c H locs 0 0 Q (F0 m 65 ls []) := by
  intro n_65
  induction n_65 with
  | zero =>
    intro v1 v3 v4 δ H locs ls h
    cases h
  | succ n_65 ih =>
    intro v1 v3 v4 δ H locs ls h hW hl
    unfold fDa_freeHeld_65 at h
    refine lv_iload S.1 S.2.1 dX0_freeHeld_65 (lv_at hl 3 rfl) ?_
    refine lv_aload_n S.1 S.2.1 dX0_freeHeld_67 rfl (lv_at hl 0 rfl) ?_
    refine gDa_seats S hK hW dX0_freeHeld_68 ?_
    refine lv_icmp_ge (tgt := 114) S.1 S.2.1 dX0_freeHeld_71 (by decide) (fun c_2 => ?_) (fun c_2 => ?_)
    · have h := ite_t c_2 h
      obtain rfl := pr1 h
      exact hQ _ _ _ _ dX0_freeHeld_114 hW
    · have h := ite_f c_2 h
      refine lv_aload_n S.1 S.2.1 dX0_freeHeld_74 rfl (lv_at hl 0 rfl) ?_
      refine gDa_seatHolders S hK hW dX0_freeHeld_75 ?_
      refine lv_iload S.1 S.2.1 dX0_freeHeld_78 (lv_at hl 3 rfl) ?_
      obtain ⟨hi_3, h⟩ := gI_some h
      refine lDa_seatHolders S hK hW hi_3 dX0_freeHeld_80 ?_
      refine lv_topi (fun x5_4 ex5_4 => ?_)
      have h := nm_to ex5_4 h
      refine lv_istore (lv' := [(5, .int x5_4), (0, .ref (a 0)), (1, .int v1), (3, .int v3), (4, .int v4)]) S.1 S.2.1 dX0_freeHeld_81 hl (by decide) rfl (fun ls hl => ?_)
      refine lv_iload S.1 S.2.1 dX0_freeHeld_83 (lv_at hl 0 rfl) ?_
      refine lv_iconst (v := -1) S.1 S.2.1 dX0_freeHeld_85 (by decide) ?_
      refine lv_icmp_eq (tgt := 108) S.1 S.2.1 dX0_freeHeld_86 (by decide) (fun c_5 => ?_) (fun c_5 => ?_)
      · have h := ite_t c_5 h
        exact wDa_freeHeld_108 S hK hA hQ ih v1 v3 v4 δ _ _ _ h hW (lv_sub hl [1, 2, 3, 4] rfl)
      · have h := ite_f c_5 h
        refine lv_aload_n S.1 S.2.1 dX0_freeHeld_89 rfl (lv_at hl 1 rfl) ?_
        refine lv_iload S.1 S.2.1 dX0_freeHeld_90 (lv_at hl 0 rfl) ?_
        refine lv_iload_n S.1 S.2.1 dX0_freeHeld_92 rfl (lv_at hl 2 rfl) ?_
        obtain ⟨r_6, hc_7, h⟩ := cl1_some h
        have hW := kw_same hW
        refine kV_i (As := [.int x5_4, .int v1]) (rest := []) S hK hA (z := none) trivial [] [] hW (cDa_offFor l D cs a aR δ ρ x5_4 v1 N hc_7) (ci := 0) rfl rfl lk_X0_141 q451 q8 ⟨Nat.le_of_ble_eq_true rfl, Nat.le_of_ble_eq_true rfl⟩ rfl (Nat.le_of_ble_eq_true rfl) hl.1 dX0_freeHeld_93 ⟨Nat.zero_le _, Nat.zero_le _⟩ (fun H locs hW => ?_)
        have hW : Wd D A s.heap (wDa cs a (aR 0) δ ++ (wRo cs aR ρ)) H locs := kw_back hW
        refine lv_iload_n S.1 S.2.1 dX0_freeHeld_96 rfl (lv_at hl 3 rfl) ?_
        refine lv_icmp_lt (tgt := 108) S.1 S.2.1 dX0_freeHeld_97 (by decide) (fun c_8 => ?_) (fun c_8 => ?_)
        · have h := ite_t c_8 h
          exact wDa_freeHeld_108 S hK hA hQ ih v1 v3 v4 δ _ _ _ h hW (lv_sub hl [1, 2, 3, 4] rfl)
        · have h := ite_f c_8 h
          refine lv_aload_n S.1 S.2.1 dX0_freeHeld_100 rfl (lv_at hl 1 rfl) ?_
          refine gDa_seatHolders S hK hW dX0_freeHeld_101 ?_
          refine lv_iload S.1 S.2.1 dX0_freeHeld_104 (lv_at hl 4 rfl) ?_
          refine lv_iconst (v := -1) S.1 S.2.1 dX0_freeHeld_106 (by decide) ?_
          obtain ⟨hi_9, h⟩ := gI_some h
          refine sDa_seatHolders S hK hW hi_9 dX0_freeHeld_107 (fun H locs δ_10 eδ_10 hW => ?_)
          have h := nm_to eδ_10 h
          exact wDa_freeHeld_108 S hK hA hQ ih v1 v3 v4 δ_10 _ _ _ h hW (lv_sub hl [1, 2, 3, 4] rfl)
set_option maxHeartbeats 4000000 in
set_option maxRecDepth 100000 in
theorem wDa_freeHeld_61 {p : Program} {l : Launch} {e : Env} {s : State} {m : MethodId} {args : Array Value} {below : List Frame} {meth : Method} {c : Code} {A : Nat → Prop} {Q : State → Prop} {D : va_G} {cs : Nat → ClassId} {a aR : Nat → Nat} {ρ : St} {δ' : St} {N : Nat} (S : Fx p m c cX0_freeHeld 6 s args RX0) (hK : va_K D vwCl (tyL cs) s) (hA : ∀ x, s.heap.size ≤ x → A x) (hQ : ∀ (H : Heap) (locs : List Loc) (pc : Nat) (ls : Array Slot), decode cX0_freeHeld pc = .ok (.return_, 1) → Wd D A s.heap (wDa cs a (aR 0) δ' ++ (wRo cs aR ρ)) H locs → W p l e { frames := 1, cells := 0, slots := 0, locals := 22 } s m args below meth c H locs 0 0 Q (F0 m pc ls [])) : ∀ (v1 : Int32) (k0 : Int32) (δ : St) (H : Heap) (locs : List Loc) (ls : Array Slot), fDa_freeHeld_61 N ρ v1 k0 δ = some δ' → Wd D A s.heap (wDa cs a (aR 0) δ ++ (wRo cs aR ρ)) H locs → lv_has ls 6 [(0, .ref (a 0)), (1, .int v1)] → W p l e { frames := 1, cells := 0, slots := 0, locals := 22 } s m args below meth c H locs 0 0 Q (F0 m 61 ls [.int k0]) := by
  intro v1 k0 δ H locs ls h hW hl
  unfold fDa_freeHeld_61 at h
  refine lv_istore_n (lv' := [(3, .int k0), (0, .ref (a 0)), (1, .int v1)]) S.1 S.2.1 dX0_freeHeld_61 rfl hl (by decide) rfl (fun ls hl => ?_)
  refine lv_iconst (v := 0) S.1 S.2.1 dX0_freeHeld_62 (by decide) ?_
  refine lv_istore (lv' := [(4, .int (0 : Int32)), (3, .int k0), (0, .ref (a 0)), (1, .int v1)]) S.1 S.2.1 dX0_freeHeld_63 hl (by decide) rfl (fun ls hl => ?_)
  exact wDa_freeHeld_65 S hK hA hQ N v1 k0 (0 : Int32) δ _ _ _ h hW (lv_sub hl [2, 3, 1, 0] rfl)
set_option maxHeartbeats 4000000 in
set_option maxRecDepth 100000 in
theorem wDa_freeHeld_43 {p : Program} {l : Launch} {e : Env} {s : State} {m : MethodId} {args : Array Value} {below : List Frame} {meth : Method} {c : Code} {A : Nat → Prop} {Q : State → Prop} {D : va_G} {cs : Nat → ClassId} {a aR : Nat → Nat} {ρ : St} {δ' : St} {N : Nat} (S : Fx p m c cX0_freeHeld 6 s args RX0) (hK : va_K D vwCl (tyL cs) s) (hA : ∀ x, s.heap.size ≤ x → A x) (hQ : ∀ (H : Heap) (locs : List Loc) (pc : Nat) (ls : Array Slot), decode cX0_freeHeld pc = .ok (.return_, 1) → Wd D A s.heap (wDa cs a (aR 0) δ' ++ (wRo cs aR ρ)) H locs → W p l e { frames := 1, cells := 0, slots := 0, locals := 22 } s m args below meth c H locs 0 0 Q (F0 m pc ls [])) : ∀ (v1 : Int32) (v2 : Int32) (δ : St) (H : Heap) (locs : List Loc) (ls : Array Slot), fDa_freeHeld_43 N ρ v1 v2 δ = some δ' → Wd D A s.heap (wDa cs a (aR 0) δ ++ (wRo cs aR ρ)) H locs → lv_has ls 6 [(0, .ref (a 0)), (1, .int v1), (2, .int v2)] → W p l e { frames := 1, cells := 0, slots := 0, locals := 22 } s m args below meth c H locs 0 0 Q (F0 m 43 ls []) := by
  intro v1 v2 δ H locs ls h hW hl
  unfold fDa_freeHeld_43 at h
  refine lv_iload_n S.1 S.2.1 dX0_freeHeld_43 rfl (lv_at hl 2 rfl) ?_
  refine lv_if_eq (tgt := 54) S.1 S.2.1 dX0_freeHeld_44 (by decide) (fun c_11 => ?_) (fun c_11 => ?_)
  · have h := ite_t c_11 h
    refine lv_aload_n S.1 S.2.1 dX0_freeHeld_54 rfl (lv_at hl 0 rfl) ?_
    refine gDa_room S hK hW dX0_freeHeld_55 ?_
    obtain ⟨r_12, hc_13, h⟩ := cl1_some h
    have hW := kw (w' := (wDa cs a (aR 0) δ) ++ ((wRo cs aR ρ) ++ [])) (by simp only [List.append_assoc, List.nil_append, List.append_nil]) hW
    refine kV_i (As := []) (rest := []) S hK hA (z := none) trivial (wDa cs a (aR 0) δ) [] hW (cRo_lampMinutes l D cs aR ρ N hc_13) (ci := 2) rfl rfl lk_X0_138 q446 q447 ⟨Nat.le_of_ble_eq_true rfl, Nat.le_of_ble_eq_true rfl⟩ rfl (Nat.le_of_ble_eq_true rfl) hl.1 dX0_freeHeld_58 ⟨Nat.zero_le _, Nat.zero_le _⟩ (fun H locs hW => ?_)
    have hW : Wd D A s.heap (wDa cs a (aR 0) δ ++ (wRo cs aR ρ)) H locs := kw (by simp only [List.append_assoc, List.nil_append, List.append_nil]) hW
    exact wDa_freeHeld_61 S hK hA hQ v1 r_12 δ _ _ _ h hW (lv_sub hl [0, 1] rfl)
  · have h := ite_f c_11 h
    refine lv_aload_n S.1 S.2.1 dX0_freeHeld_47 rfl (lv_at hl 0 rfl) ?_
    refine gDa_cardMinutes S hK hW dX0_freeHeld_48 ?_
    refine lv_goto (tgt := 61) S.1 S.2.1 dX0_freeHeld_51 (by decide) ?_
    exact wDa_freeHeld_61 S hK hA hQ v1 (δ 0 13) δ _ _ _ h hW (lv_sub hl [0, 1] rfl)
set_option maxHeartbeats 4000000 in
set_option maxRecDepth 100000 in
theorem wDa_freeHeld_29 {p : Program} {l : Launch} {e : Env} {s : State} {m : MethodId} {args : Array Value} {below : List Frame} {meth : Method} {c : Code} {A : Nat → Prop} {Q : State → Prop} {D : va_G} {cs : Nat → ClassId} {a aR : Nat → Nat} {ρ : St} {δ' : St} {N : Nat} (S : Fx p m c cX0_freeHeld 6 s args RX0) (hK : va_K D vwCl (tyL cs) s) (hA : ∀ x, s.heap.size ≤ x → A x) (hQ : ∀ (H : Heap) (locs : List Loc) (pc : Nat) (ls : Array Slot), decode cX0_freeHeld pc = .ok (.return_, 1) → Wd D A s.heap (wDa cs a (aR 0) δ' ++ (wRo cs aR ρ)) H locs → W p l e { frames := 1, cells := 0, slots := 0, locals := 22 } s m args below meth c H locs 0 0 Q (F0 m pc ls [])) : ∀ (v1 : Int32) (k0 : Int32) (δ : St) (H : Heap) (locs : List Loc) (ls : Array Slot), fDa_freeHeld_29 N ρ v1 k0 δ = some δ' → Wd D A s.heap (wDa cs a (aR 0) δ ++ (wRo cs aR ρ)) H locs → lv_has ls 6 [(0, .ref (a 0)), (1, .int v1)] → W p l e { frames := 1, cells := 0, slots := 0, locals := 22 } s m args below meth c H locs 0 0 Q (F0 m 29 ls [.int k0]) := by
  intro v1 k0 δ H locs ls h hW hl
  unfold fDa_freeHeld_29 at h
  refine lv_istore_n (lv' := [(2, .int k0), (0, .ref (a 0)), (1, .int v1)]) S.1 S.2.1 dX0_freeHeld_29 rfl hl (by decide) rfl (fun ls hl => ?_)
  refine lv_iload_n S.1 S.2.1 dX0_freeHeld_30 rfl (lv_at hl 0 rfl) ?_
  refine lv_if_ne (tgt := 43) S.1 S.2.1 dX0_freeHeld_31 (by decide) (fun c_14 => ?_) (fun c_14 => ?_)
  · have h := ite_f c_14 h
    exact wDa_freeHeld_43 S hK hA hQ v1 k0 δ _ _ _ h hW (lv_sub hl [1, 2, 0] rfl)
  · have h := ite_t c_14 h
    refine lv_aload_n S.1 S.2.1 dX0_freeHeld_34 rfl (lv_at hl 1 rfl) ?_
    refine gDa_rule S hK hW dX0_freeHeld_35 ?_
    refine lv_iconst (v := 3) S.1 S.2.1 dX0_freeHeld_38 (by decide) ?_
    refine lv_icmp_eq (tgt := 43) S.1 S.2.1 dX0_freeHeld_39 (by decide) (fun c_15 => ?_) (fun c_15 => ?_)
    · have h := ite_t c_15 h
      exact wDa_freeHeld_43 S hK hA hQ v1 k0 δ _ _ _ h hW (lv_sub hl [1, 2, 0] rfl)
    · have h := ite_f c_15 h
      obtain rfl := pr1 h
      exact hQ _ _ _ _ dX0_freeHeld_42 hW
set_option maxHeartbeats 4000000 in
set_option maxRecDepth 100000 in
theorem wDa_freeHeld_28 {p : Program} {l : Launch} {e : Env} {s : State} {m : MethodId} {args : Array Value} {below : List Frame} {meth : Method} {c : Code} {A : Nat → Prop} {Q : State → Prop} {D : va_G} {cs : Nat → ClassId} {a aR : Nat → Nat} {ρ : St} {δ' : St} {N : Nat} (S : Fx p m c cX0_freeHeld 6 s args RX0) (hK : va_K D vwCl (tyL cs) s) (hA : ∀ x, s.heap.size ≤ x → A x) (hQ : ∀ (H : Heap) (locs : List Loc) (pc : Nat) (ls : Array Slot), decode cX0_freeHeld pc = .ok (.return_, 1) → Wd D A s.heap (wDa cs a (aR 0) δ' ++ (wRo cs aR ρ)) H locs → W p l e { frames := 1, cells := 0, slots := 0, locals := 22 } s m args below meth c H locs 0 0 Q (F0 m pc ls [])) : ∀ (v1 : Int32) (δ : St) (H : Heap) (locs : List Loc) (ls : Array Slot), fDa_freeHeld_28 N ρ v1 δ = some δ' → Wd D A s.heap (wDa cs a (aR 0) δ ++ (wRo cs aR ρ)) H locs → lv_has ls 6 [(0, .ref (a 0)), (1, .int v1)] → W p l e { frames := 1, cells := 0, slots := 0, locals := 22 } s m args below meth c H locs 0 0 Q (F0 m 28 ls []) := by
  intro v1 δ H locs ls h hW hl
  unfold fDa_freeHeld_28 at h
  refine lv_iconst (v := 0) S.1 S.2.1 dX0_freeHeld_28 (by decide) ?_
  exact wDa_freeHeld_29 S hK hA hQ v1 (0 : Int32) δ _ _ _ h hW (lv_sub hl [0, 1] rfl)
set_option maxHeartbeats 4000000 in
set_option maxRecDepth 100000 in
theorem cDa_freeHeld (l : Launch) (D : va_G) (cs : Nat → ClassId) (a aR : Nat → Nat) (δ : St) (ρ : St) (p0 : Int32) (N : Nat) {δ' : St} (h : fDa_freeHeld N p0 ρ δ = some δ') : Kv l D cs none yX0_freeHeld cX0_freeHeld 6 none 1 22 (wDa cs a (aR 0) δ ++ (wRo cs aR ρ)) [.ref (a 0), .int p0] (wDa cs a (aR 0) δ' ++ (wRo cs aR ρ)) := by
  refine Kv_of (by decide +kernel) (Nat.le_of_ble_eq_true rfl) (fun p e s m below meth c A S hK hA hZ Q hQ ls hl hW => ?_)
  have hl : lv_has ls 6 [(0, .ref (a 0)), (1, .int p0)] := hl
  unfold fDa_freeHeld at h
  refine lv_aload_n S.1 S.2.1 dX0_freeHeld_0 rfl (lv_at hl 0 rfl) ?_
  refine gDa_rule S hK hW dX0_freeHeld_1 ?_
  refine lv_iconst (v := 2) S.1 S.2.1 dX0_freeHeld_4 (by decide) ?_
  refine lv_icmp_ne (tgt := 28) S.1 S.2.1 dX0_freeHeld_5 (by decide) (fun c_16 => ?_) (fun c_16 => ?_)
  · have h := ite_f c_16 h
    exact wDa_freeHeld_28 S hK hA hQ p0 δ _ _ _ h hW (lv_sub hl [0, 1] rfl)
  · have h := ite_t c_16 h
    refine lv_aload_n S.1 S.2.1 dX0_freeHeld_8 rfl (lv_at hl 0 rfl) ?_
    refine gDa_porterMinutes S hK hW dX0_freeHeld_9 ?_
    refine lv_if_le (tgt := 28) S.1 S.2.1 dX0_freeHeld_12 (by decide) (fun c_17 => ?_) (fun c_17 => ?_)
    · have h := ite_t c_17 h
      exact wDa_freeHeld_28 S hK hA hQ p0 δ _ _ _ h hW (lv_sub hl [0, 1] rfl)
    · have h := ite_f c_17 h
      refine lv_iload_n S.1 S.2.1 dX0_freeHeld_15 rfl (lv_at hl 1 rfl) ?_
      refine lv_aload_n S.1 S.2.1 dX0_freeHeld_16 rfl (lv_at hl 0 rfl) ?_
      refine gDa_porterMinutes S hK hW dX0_freeHeld_17 ?_
      obtain ⟨hz_18, h⟩ := gZ_some h
      refine lv_irem S.1 S.2.1 dX0_freeHeld_20 hz_18 ?_
      refine lv_if_ne (tgt := 28) S.1 S.2.1 dX0_freeHeld_21 (by decide) (fun c_19 => ?_) (fun c_19 => ?_)
      · have h := ite_f c_19 h
        exact wDa_freeHeld_28 S hK hA hQ p0 δ _ _ _ h hW (lv_sub hl [0, 1] rfl)
      · have h := ite_t c_19 h
        refine lv_iconst (v := 1) S.1 S.2.1 dX0_freeHeld_24 (by decide) ?_
        refine lv_goto (tgt := 29) S.1 S.2.1 dX0_freeHeld_25 (by decide) ?_
        exact wDa_freeHeld_29 S hK hA hQ p0 (1 : Int32) δ _ _ _ h hW (lv_sub hl [0, 1] rfl)
set_option maxHeartbeats 4000000 in
set_option maxRecDepth 100000 in
theorem wDa_daredSeatFor_60 {p : Program} {l : Launch} {e : Env} {s : State} {m : MethodId} {args : Array Value} {below : List Frame} {meth : Method} {c : Code} {A : Nat → Prop} {Q : State → Prop} {D : va_G} {cs : Nat → ClassId} {a aR : Nat → Nat} {δ : St} {ρ : St} {r : Int32} {N : Nat} (S : Fx p m c cX0_daredSeatFor 5 s args RX0) (hK : va_K D vwCl (tyL cs) s) (hA : ∀ x, s.heap.size ≤ x → A x) (hQ : ∀ (H : Heap) (locs : List Loc) (pc : Nat) (ls : Array Slot), decode cX0_daredSeatFor pc = .ok (.ireturn, 1) → narrow .int (.int r) = .int r → Wd D A s.heap (wDa cs a (aR 0) δ ++ (wRo cs aR ρ)) H locs → W p l e { frames := 1, cells := 0, slots := 0, locals := 23 } s m args below meth c H locs 0 0 Q (F0 m pc ls [.int r])) {k_2 : Int32 → Int32 → Int32 → Option (Int32)} (hk_2 : ∀ (v1 : Int32) (v2 : Int32) (v3 : Int32) (H : Heap) (locs : List Loc) (ls : Array Slot), k_2 v1 v2 v3 = some r → Wd D A s.heap (wDa cs a (aR 0) δ ++ (wRo cs aR ρ)) H locs → lv_has ls 5 [(0, .ref (a 0)), (1, .int v1), (2, .int v2), (3, .int v3)] → W p l e { frames := 1, cells := 0, slots := 0, locals := 23 } s m args below meth c H locs 0 0 Q (F0 m 2 ls [])) : ∀ (v1 : Int32) (v2 : Int32) (v3 : Int32) (H : Heap) (locs : List Loc) (ls : Array Slot), fDa_daredSeatFor_60 k_2 N δ ρ v1 v2 v3 = some r → Wd D A s.heap (wDa cs a (aR 0) δ ++ (wRo cs aR ρ)) H locs → lv_has ls 5 [(0, .ref (a 0)), (1, .int v1), (2, .int v2), (3, .int v3)] → W p l e { frames := 1, cells := 0, slots := 0, locals := 23 } s m args below meth c H locs 0 0 Q (F0 m 60 ls []) := by
  intro v1 v2 v3 H locs ls h hW hl
  unfold fDa_daredSeatFor_60 at h
  obtain ⟨x3_1, ex3_1, h⟩ := nm_some h
  refine lv_iinc (v := x3_1) (lv' := [(3, .int x3_1), (0, .ref (a 0)), (1, .int v1), (2, .int v2)]) S.1 S.2.1 dX0_daredSeatFor_60 hl (k := 3) rfl (by rw [ex3_1]; rfl) (by decide) rfl (fun ls hl => ?_)
  refine lv_goto (tgt := 2) S.1 S.2.1 dX0_daredSeatFor_63 (by decide) ?_
  exact hk_2 v1 v2 x3_1 _ _ _ h hW (lv_sub hl [1, 2, 3, 0] rfl)
set_option maxHeartbeats 4000000 in
set_option maxRecDepth 100000 in
theorem wDa_daredSeatFor_2 {p : Program} {l : Launch} {e : Env} {s : State} {m : MethodId} {args : Array Value} {below : List Frame} {meth : Method} {c : Code} {A : Nat → Prop} {Q : State → Prop} {D : va_G} {cs : Nat → ClassId} {a aR : Nat → Nat} {δ : St} {ρ : St} {r : Int32} {N : Nat} (S : Fx p m c cX0_daredSeatFor 5 s args RX0) (hK : va_K D vwCl (tyL cs) s) (hA : ∀ x, s.heap.size ≤ x → A x) (hQ : ∀ (H : Heap) (locs : List Loc) (pc : Nat) (ls : Array Slot), decode cX0_daredSeatFor pc = .ok (.ireturn, 1) → narrow .int (.int r) = .int r → Wd D A s.heap (wDa cs a (aR 0) δ ++ (wRo cs aR ρ)) H locs → W p l e { frames := 1, cells := 0, slots := 0, locals := 23 } s m args below meth c H locs 0 0 Q (F0 m pc ls [.int r])) : ∀ (n_2 : Nat) (v1 : Int32) (v2 : Int32) (v3 : Int32) (H : Heap) (locs : List Loc) (ls : Array Slot), fDa_daredSeatFor_2 N δ ρ n_2 v1 v2 v3 = some r → Wd D A s.heap (wDa cs a (aR 0) δ ++ (wRo cs aR ρ)) H locs → lv_has ls 5 [(0, .ref (a 0)), (1, .int v1), (2, .int v2), (3, .int v3)] → W p l e { frames := 1, cells := 0, slots := 0, locals := 23 } s m args below meth c H locs 0 0 Q (F0 m 2 ls []) := by
  intro n_2
  induction n_2 with
  | zero =>
    intro v1 v2 v3 H locs ls h
    cases h
  | succ n_2 ih =>
    intro v1 v2 v3 H locs ls h hW hl
    unfold fDa_daredSeatFor_2 at h
    refine lv_iload_n S.1 S.2.1 dX0_daredSeatFor_2 rfl (lv_at hl 3 rfl) ?_
    refine lv_aload_n S.1 S.2.1 dX0_daredSeatFor_3 rfl (lv_at hl 0 rfl) ?_
    refine gDa_seats S hK hW dX0_daredSeatFor_4 ?_
    refine lv_icmp_ge (tgt := 66) S.1 S.2.1 dX0_daredSeatFor_7 (by decide) (fun c_2 => ?_) (fun c_2 => ?_)
    · have h := ite_t c_2 h
      refine lv_iconst (v := -1) S.1 S.2.1 dX0_daredSeatFor_66 (by decide) ?_
      obtain rfl := pr1 h
      exact hQ _ _ _ _ dX0_daredSeatFor_67 rfl hW
    · have h := ite_f c_2 h
      refine lv_aload_n S.1 S.2.1 dX0_daredSeatFor_10 rfl (lv_at hl 0 rfl) ?_
      refine gDa_seatHolders S hK hW dX0_daredSeatFor_11 ?_
      refine lv_iload_n S.1 S.2.1 dX0_daredSeatFor_14 rfl (lv_at hl 3 rfl) ?_
      obtain ⟨hi_3, h⟩ := gI_some h
      refine lDa_seatHolders S hK hW hi_3 dX0_daredSeatFor_15 ?_
      refine lv_topi (fun x4_4 ex4_4 => ?_)
      have h := nm_to ex4_4 h
      refine lv_istore (lv' := [(4, .int x4_4), (0, .ref (a 0)), (1, .int v1), (2, .int v2), (3, .int v3)]) S.1 S.2.1 dX0_daredSeatFor_16 hl (by decide) rfl (fun ls hl => ?_)
      refine lv_iload S.1 S.2.1 dX0_daredSeatFor_18 (lv_at hl 0 rfl) ?_
      refine lv_iconst (v := -1) S.1 S.2.1 dX0_daredSeatFor_20 (by decide) ?_
      refine lv_icmp_eq (tgt := 60) S.1 S.2.1 dX0_daredSeatFor_21 (by decide) (fun c_5 => ?_) (fun c_5 => ?_)
      · have h := ite_t c_5 h
        exact wDa_daredSeatFor_60 S hK hA hQ ih v1 v2 v3 _ _ _ h hW (lv_sub hl [1, 2, 3, 4] rfl)
      · have h := ite_f c_5 h
        refine lv_aload_n S.1 S.2.1 dX0_daredSeatFor_24 rfl (lv_at hl 1 rfl) ?_
        refine gDa_room S hK hW dX0_daredSeatFor_25 ?_
        refine lv_iload S.1 S.2.1 dX0_daredSeatFor_28 (lv_at hl 0 rfl) ?_
        refine lv_iconst (v := 5) S.1 S.2.1 dX0_daredSeatFor_30 (by decide) ?_
        obtain ⟨r_6, hc_7, h⟩ := cl1_some h
        have hW := kw (w' := (wDa cs a (aR 0) δ) ++ ((wRo cs aR ρ) ++ [])) (by simp only [List.append_assoc, List.nil_append, List.append_nil]) hW
        refine kV_i (As := [.int x4_4, .int (5 : Int32)]) (rest := []) S hK hA (z := none) trivial (wDa cs a (aR 0) δ) [] hW (cRo_number l D cs aR ρ x4_4 (5 : Int32) N hc_7) (ci := 2) rfl rfl lk_X0_78 q374 q375 ⟨Nat.le_of_ble_eq_true rfl, Nat.le_of_ble_eq_true rfl⟩ rfl (Nat.le_of_ble_eq_true rfl) hl.1 dX0_daredSeatFor_31 ⟨Nat.zero_le _, Nat.zero_le _⟩ (fun H locs hW => ?_)
        have hW : Wd D A s.heap (wDa cs a (aR 0) δ ++ (wRo cs aR ρ)) H locs := kw (by simp only [List.append_assoc, List.nil_append, List.append_nil]) hW
        refine lv_aload_n S.1 S.2.1 dX0_daredSeatFor_34 rfl (lv_at hl 1 rfl) ?_
        refine gDa_room S hK hW dX0_daredSeatFor_35 ?_
        refine lv_iload_n S.1 S.2.1 dX0_daredSeatFor_38 rfl (lv_at hl 2 rfl) ?_
        refine lv_bipush (v := 6) S.1 S.2.1 dX0_daredSeatFor_39 (by decide) ?_
        obtain ⟨r_8, hc_9, h⟩ := cl1_some h
        have hW := kw (w' := (wDa cs a (aR 0) δ) ++ ((wRo cs aR ρ) ++ [])) (by simp only [List.append_assoc, List.nil_append, List.append_nil]) hW
        refine kV_i (As := [.int v1, .int (6 : Int32)]) (rest := [.int r_6]) S hK hA (z := none) trivial (wDa cs a (aR 0) δ) [] hW (cRo_number l D cs aR ρ v1 (6 : Int32) N hc_9) (ci := 2) rfl rfl lk_X0_78 q374 q375 ⟨Nat.le_of_ble_eq_true rfl, Nat.le_of_ble_eq_true rfl⟩ rfl (Nat.le_of_ble_eq_true rfl) hl.1 dX0_daredSeatFor_41 ⟨Nat.zero_le _, Nat.zero_le _⟩ (fun H locs hW => ?_)
        have hW : Wd D A s.heap (wDa cs a (aR 0) δ ++ (wRo cs aR ρ)) H locs := kw (by simp only [List.append_assoc, List.nil_append, List.append_nil]) hW
        refine lv_aload_n S.1 S.2.1 dX0_daredSeatFor_44 rfl (lv_at hl 1 rfl) ?_
        refine lv_iload S.1 S.2.1 dX0_daredSeatFor_45 (lv_at hl 0 rfl) ?_
        refine lv_iload_n S.1 S.2.1 dX0_daredSeatFor_47 rfl (lv_at hl 3 rfl) ?_
        obtain ⟨r_10, hc_11, h⟩ := cl1_some h
        have hW := kw_same hW
        refine kV_i (As := [.int x4_4, .int v2]) (rest := [.int r_8, .int r_6]) S hK hA (z := none) trivial [] [] hW (cDa_offFor l D cs a aR δ ρ x4_4 v2 N hc_11) (ci := 0) rfl rfl lk_X0_141 q451 q8 ⟨Nat.le_of_ble_eq_true rfl, Nat.le_of_ble_eq_true rfl⟩ rfl (Nat.le_of_ble_eq_true rfl) hl.1 dX0_daredSeatFor_48 ⟨Nat.zero_le _, Nat.zero_le _⟩ (fun H locs hW => ?_)
        have hW : Wd D A s.heap (wDa cs a (aR 0) δ ++ (wRo cs aR ρ)) H locs := kw_back hW
        refine lv_bipush (v := 10) S.1 S.2.1 dX0_daredSeatFor_51 (by decide) ?_
        refine lv_idiv S.1 S.2.1 dX0_daredSeatFor_53 (by decide) ?_
        refine lv_iadd S.1 S.2.1 dX0_daredSeatFor_54 ?_
        refine lv_icmp_gt (tgt := 60) S.1 S.2.1 dX0_daredSeatFor_55 (by decide) (fun c_12 => ?_) (fun c_12 => ?_)
        · have h := ite_t c_12 h
          exact wDa_daredSeatFor_60 S hK hA hQ ih v1 v2 v3 _ _ _ h hW (lv_sub hl [1, 2, 3, 4] rfl)
        · have h := ite_f c_12 h
          refine lv_iload_n S.1 S.2.1 dX0_daredSeatFor_58 rfl (lv_at hl 4 rfl) ?_
          obtain rfl := pr1 h
          exact hQ _ _ _ _ dX0_daredSeatFor_59 rfl hW
set_option maxHeartbeats 4000000 in
set_option maxRecDepth 100000 in
theorem cDa_daredSeatFor (l : Launch) (D : va_G) (cs : Nat → ClassId) (a aR : Nat → Nat) (δ : St) (ρ : St) (p0 : Int32) (p1 : Int32) (N : Nat) {r : Int32} (h : fDa_daredSeatFor N p0 p1 δ ρ = some r) : Ki l D cs none yX0_daredSeatFor cX0_daredSeatFor 5 (some .int) 1 23 (wDa cs a (aR 0) δ ++ (wRo cs aR ρ)) [.ref (a 0), .int p0, .int p1] r (wDa cs a (aR 0) δ ++ (wRo cs aR ρ)) := by
  refine Ki_of (by decide +kernel) (Nat.le_of_ble_eq_true rfl) (fun p e s m below meth c A S hK hA hZ Q hQ ls hl hW => ?_)
  have hl : lv_has ls 5 [(0, .ref (a 0)), (1, .int p0), (2, .int p1)] := hl
  unfold fDa_daredSeatFor at h
  refine lv_iconst (v := 0) S.1 S.2.1 dX0_daredSeatFor_0 (by decide) ?_
  refine lv_istore_n (lv' := [(3, .int (0 : Int32)), (0, .ref (a 0)), (1, .int p0), (2, .int p1)]) S.1 S.2.1 dX0_daredSeatFor_1 rfl hl (by decide) rfl (fun ls hl => ?_)
  exact wDa_daredSeatFor_2 S hK hA hQ N p0 p1 (0 : Int32) _ _ _ h hW (lv_sub hl [1, 2, 3, 0] rfl)
set_option maxHeartbeats 4000000 in
set_option maxRecDepth 100000 in
theorem wDa_freeSeatFor_82 {p : Program} {l : Launch} {e : Env} {s : State} {m : MethodId} {args : Array Value} {below : List Frame} {meth : Method} {c : Code} {A : Nat → Prop} {Q : State → Prop} {D : va_G} {cs : Nat → ClassId} {a aR : Nat → Nat} {δ : St} {ρ : St} {r : Int32} {N : Nat} (S : Fx p m c cX0_freeSeatFor 7 s args RX0) (hK : va_K D vwCl (tyL cs) s) (hA : ∀ x, s.heap.size ≤ x → A x) (hQ : ∀ (H : Heap) (locs : List Loc) (pc : Nat) (ls : Array Slot), decode cX0_freeSeatFor pc = .ok (.ireturn, 1) → narrow .int (.int r) = .int r → Wd D A s.heap (wDa cs a (aR 0) δ ++ (wRo cs aR ρ)) H locs → W p l e { frames := 1, cells := 0, slots := 0, locals := 23 } s m args below meth c H locs 0 0 Q (F0 m pc ls [.int r])) {k_18 : Int32 → Int32 → Int32 → Int32 → Option (Int32)} (hk_18 : ∀ (v2 : Int32) (v3 : Int32) (v4 : Int32) (v5 : Int32) (H : Heap) (locs : List Loc) (ls : Array Slot), k_18 v2 v3 v4 v5 = some r → Wd D A s.heap (wDa cs a (aR 0) δ ++ (wRo cs aR ρ)) H locs → lv_has ls 7 [(0, .ref (a 0)), (2, .int v2), (3, .int v3), (4, .int v4), (5, .int v5)] → W p l e { frames := 1, cells := 0, slots := 0, locals := 23 } s m args below meth c H locs 0 0 Q (F0 m 18 ls [])) : ∀ (v2 : Int32) (v3 : Int32) (v4 : Int32) (v5 : Int32) (H : Heap) (locs : List Loc) (ls : Array Slot), fDa_freeSeatFor_82 k_18 N δ ρ v2 v3 v4 v5 = some r → Wd D A s.heap (wDa cs a (aR 0) δ ++ (wRo cs aR ρ)) H locs → lv_has ls 7 [(0, .ref (a 0)), (2, .int v2), (3, .int v3), (4, .int v4), (5, .int v5)] → W p l e { frames := 1, cells := 0, slots := 0, locals := 23 } s m args below meth c H locs 0 0 Q (F0 m 82 ls []) := by
  intro v2 v3 v4 v5 H locs ls h hW hl
  unfold fDa_freeSeatFor_82 at h
  obtain ⟨x5_1, ex5_1, h⟩ := nm_some h
  refine lv_iinc (v := x5_1) (lv' := [(5, .int x5_1), (0, .ref (a 0)), (2, .int v2), (3, .int v3), (4, .int v4)]) S.1 S.2.1 dX0_freeSeatFor_82 hl (k := 4) rfl (by rw [ex5_1]; rfl) (by decide) rfl (fun ls hl => ?_)
  refine lv_goto (tgt := 18) S.1 S.2.1 dX0_freeSeatFor_85 (by decide) ?_
  exact hk_18 v2 v3 v4 x5_1 _ _ _ h hW (lv_sub hl [1, 2, 3, 4, 0] rfl)
set_option maxHeartbeats 4000000 in
set_option maxRecDepth 100000 in
theorem wDa_freeSeatFor_18 {p : Program} {l : Launch} {e : Env} {s : State} {m : MethodId} {args : Array Value} {below : List Frame} {meth : Method} {c : Code} {A : Nat → Prop} {Q : State → Prop} {D : va_G} {cs : Nat → ClassId} {a aR : Nat → Nat} {δ : St} {ρ : St} {r : Int32} {N : Nat} (S : Fx p m c cX0_freeSeatFor 7 s args RX0) (hK : va_K D vwCl (tyL cs) s) (hA : ∀ x, s.heap.size ≤ x → A x) (hQ : ∀ (H : Heap) (locs : List Loc) (pc : Nat) (ls : Array Slot), decode cX0_freeSeatFor pc = .ok (.ireturn, 1) → narrow .int (.int r) = .int r → Wd D A s.heap (wDa cs a (aR 0) δ ++ (wRo cs aR ρ)) H locs → W p l e { frames := 1, cells := 0, slots := 0, locals := 23 } s m args below meth c H locs 0 0 Q (F0 m pc ls [.int r])) : ∀ (n_18 : Nat) (v2 : Int32) (v3 : Int32) (v4 : Int32) (v5 : Int32) (H : Heap) (locs : List Loc) (ls : Array Slot), fDa_freeSeatFor_18 N δ ρ n_18 v2 v3 v4 v5 = some r → Wd D A s.heap (wDa cs a (aR 0) δ ++ (wRo cs aR ρ)) H locs → lv_has ls 7 [(0, .ref (a 0)), (2, .int v2), (3, .int v3), (4, .int v4), (5, .int v5)] → W p l e { frames := 1, cells := 0, slots := 0, locals := 23 } s m args below meth c H locs 0 0 Q (F0 m 18 ls []) := by
  intro n_18
  induction n_18 with
  | zero =>
    intro v2 v3 v4 v5 H locs ls h
    cases h
  | succ n_18 ih =>
    intro v2 v3 v4 v5 H locs ls h hW hl
    unfold fDa_freeSeatFor_18 at h
    refine lv_iload S.1 S.2.1 dX0_freeSeatFor_18 (lv_at hl 4 rfl) ?_
    refine lv_aload_n S.1 S.2.1 dX0_freeSeatFor_20 rfl (lv_at hl 0 rfl) ?_
    refine gDa_seats S hK hW dX0_freeSeatFor_21 ?_
    refine lv_icmp_ge (tgt := 88) S.1 S.2.1 dX0_freeSeatFor_24 (by decide) (fun c_2 => ?_) (fun c_2 => ?_)
    · have h := ite_t c_2 h
      refine lv_iload_n S.1 S.2.1 dX0_freeSeatFor_88 rfl (lv_at hl 2 rfl) ?_
      obtain rfl := pr1 h
      exact hQ _ _ _ _ dX0_freeSeatFor_89 rfl hW
    · have h := ite_f c_2 h
      refine lv_aload_n S.1 S.2.1 dX0_freeSeatFor_27 rfl (lv_at hl 0 rfl) ?_
      refine gDa_sitters S hK hW dX0_freeSeatFor_28 ?_
      refine lv_iload S.1 S.2.1 dX0_freeSeatFor_31 (lv_at hl 4 rfl) ?_
      obtain ⟨hi_3, h⟩ := gI_some h
      refine lDa_sitters S hK hW hi_3 dX0_freeSeatFor_33 ?_
      refine lv_iconst (v := -1) S.1 S.2.1 dX0_freeSeatFor_34 (by decide) ?_
      refine lv_icmp_ne (tgt := 82) S.1 S.2.1 dX0_freeSeatFor_35 (by decide) (fun c_4 => ?_) (fun c_4 => ?_)
      · have h := ite_f c_4 h
        exact wDa_freeSeatFor_82 S hK hA hQ ih v2 v3 v4 v5 _ _ _ h hW (lv_sub hl [0, 1, 2, 3, 4] rfl)
      · have h := ite_t c_4 h
        refine lv_aload_n S.1 S.2.1 dX0_freeSeatFor_38 rfl (lv_at hl 0 rfl) ?_
        refine gDa_seatHolders S hK hW dX0_freeSeatFor_39 ?_
        refine lv_iload S.1 S.2.1 dX0_freeSeatFor_42 (lv_at hl 4 rfl) ?_
        obtain ⟨hi_5, h⟩ := gI_some h
        refine lDa_seatHolders S hK hW hi_5 dX0_freeSeatFor_44 ?_
        refine lv_iconst (v := -1) S.1 S.2.1 dX0_freeSeatFor_45 (by decide) ?_
        refine lv_icmp_eq (tgt := 52) S.1 S.2.1 dX0_freeSeatFor_46 (by decide) (fun c_6 => ?_) (fun c_6 => ?_)
        · have h := ite_t c_6 h
          refine lv_aload_n S.1 S.2.1 dX0_freeSeatFor_52 rfl (lv_at hl 0 rfl) ?_
          refine gDa_room S hK hW dX0_freeSeatFor_53 ?_
          refine lv_iload S.1 S.2.1 dX0_freeSeatFor_56 (lv_at hl 4 rfl) ?_
          obtain ⟨r_7, hc_8, h⟩ := cl1_some h
          have hW := kw (w' := (wDa cs a (aR 0) δ) ++ ((wRo cs aR ρ) ++ [])) (by simp only [List.append_assoc, List.nil_append, List.append_nil]) hW
          refine kV_i (As := [.int v5]) (rest := []) S hK hA (z := none) trivial (wDa cs a (aR 0) δ) [] hW (cRo_kindOf l D cs aR ρ v5 N hc_8) (ci := 2) rfl rfl lk_X0_153 q386 q387 ⟨Nat.le_of_ble_eq_true rfl, Nat.le_of_ble_eq_true rfl⟩ rfl (Nat.le_of_ble_eq_true rfl) hl.1 dX0_freeSeatFor_58 ⟨Nat.zero_le _, Nat.zero_le _⟩ (fun H locs hW => ?_)
          have hW : Wd D A s.heap (wDa cs a (aR 0) δ ++ (wRo cs aR ρ)) H locs := kw (by simp only [List.append_assoc, List.nil_append, List.append_nil]) hW
          refine lv_iload_n S.1 S.2.1 dX0_freeSeatFor_61 rfl (lv_at hl 1 rfl) ?_
          refine lv_iand S.1 S.2.1 dX0_freeSeatFor_62 ?_
          obtain ⟨r_9, hc_10, h⟩ := cl1_some h
          refine kS_i (As := [.int (r_7 &&& v2)]) (rest := []) S hK hA (z := none) trivial [] (wDa cs a (aR 0) δ ++ (wRo cs aR ρ)) hW (cBc_bitCount_0f7a4 l D cs (r_7 &&& v2) N hc_10) lk_X0_156 q463 ⟨Nat.le_of_ble_eq_true rfl, Nat.le_of_ble_eq_true rfl⟩ rfl (Nat.le_of_ble_eq_true rfl) hl.1 dX0_freeSeatFor_63 ⟨Nat.zero_le _, Nat.zero_le _⟩ (fun H locs hW => ?_)
          have hW : Wd D A s.heap (wDa cs a (aR 0) δ ++ (wRo cs aR ρ)) H locs := hW
          refine lv_istore (lv' := [(6, .int r_9), (0, .ref (a 0)), (2, .int v2), (3, .int v3), (4, .int v4), (5, .int v5)]) S.1 S.2.1 dX0_freeSeatFor_66 hl (by decide) rfl (fun ls hl => ?_)
          refine lv_iload S.1 S.2.1 dX0_freeSeatFor_68 (lv_at hl 0 rfl) ?_
          refine lv_iload S.1 S.2.1 dX0_freeSeatFor_70 (lv_at hl 4 rfl) ?_
          refine lv_icmp_le (tgt := 82) S.1 S.2.1 dX0_freeSeatFor_72 (by decide) (fun c_11 => ?_) (fun c_11 => ?_)
          · have h := ite_t c_11 h
            exact wDa_freeSeatFor_82 S hK hA hQ ih v2 v3 v4 v5 _ _ _ h hW (lv_sub hl [1, 2, 3, 4, 5] rfl)
          · have h := ite_f c_11 h
            refine lv_iload S.1 S.2.1 dX0_freeSeatFor_75 (lv_at hl 5 rfl) ?_
            refine lv_istore_n (lv' := [(3, .int v5), (6, .int r_9), (0, .ref (a 0)), (2, .int v2), (4, .int v4), (5, .int v5)]) S.1 S.2.1 dX0_freeSeatFor_77 rfl hl (by decide) rfl (fun ls hl => ?_)
            refine lv_iload S.1 S.2.1 dX0_freeSeatFor_78 (lv_at hl 1 rfl) ?_
            refine lv_istore (lv' := [(4, .int r_9), (3, .int v5), (6, .int r_9), (0, .ref (a 0)), (2, .int v2), (5, .int v5)]) S.1 S.2.1 dX0_freeSeatFor_80 hl (by decide) rfl (fun ls hl => ?_)
            exact wDa_freeSeatFor_82 S hK hA hQ ih v2 v5 r_9 v5 _ _ _ h hW (lv_sub hl [3, 4, 1, 0, 5] rfl)
        · have h := ite_f c_6 h
          refine lv_goto (tgt := 82) S.1 S.2.1 dX0_freeSeatFor_49 (by decide) ?_
          exact wDa_freeSeatFor_82 S hK hA hQ ih v2 v3 v4 v5 _ _ _ h hW (lv_sub hl [0, 1, 2, 3, 4] rfl)
set_option maxHeartbeats 4000000 in
set_option maxRecDepth 100000 in
theorem cDa_freeSeatFor (l : Launch) (D : va_G) (cs : Nat → ClassId) (a aR : Nat → Nat) (δ : St) (ρ : St) (p0 : Int32) (N : Nat) {r : Int32} (h : fDa_freeSeatFor N p0 δ ρ = some r) : Ki l D cs none yX0_freeSeatFor cX0_freeSeatFor 7 (some .int) 1 23 (wDa cs a (aR 0) δ ++ (wRo cs aR ρ)) [.ref (a 0), .int p0] r (wDa cs a (aR 0) δ ++ (wRo cs aR ρ)) := by
  refine Ki_of (by decide +kernel) (Nat.le_of_ble_eq_true rfl) (fun p e s m below meth c A S hK hA hZ Q hQ ls hl hW => ?_)
  have hl : lv_has ls 7 [(0, .ref (a 0)), (1, .int p0)] := hl
  unfold fDa_freeSeatFor at h
  refine lv_aload_n S.1 S.2.1 dX0_freeSeatFor_0 rfl (lv_at hl 0 rfl) ?_
  refine gDa_room S hK hW dX0_freeSeatFor_1 ?_
  refine lv_iload_n S.1 S.2.1 dX0_freeSeatFor_4 rfl (lv_at hl 1 rfl) ?_
  refine lv_iconst (v := 4) S.1 S.2.1 dX0_freeSeatFor_5 (by decide) ?_
  obtain ⟨r_12, hc_13, h⟩ := cl1_some h
  have hW := kw (w' := (wDa cs a (aR 0) δ) ++ ((wRo cs aR ρ) ++ [])) (by simp only [List.append_assoc, List.nil_append, List.append_nil]) hW
  refine kV_i (As := [.int p0, .int (4 : Int32)]) (rest := []) S hK hA (z := none) trivial (wDa cs a (aR 0) δ) [] hW (cRo_number l D cs aR ρ p0 (4 : Int32) N hc_13) (ci := 2) rfl rfl lk_X0_78 q374 q375 ⟨Nat.le_of_ble_eq_true rfl, Nat.le_of_ble_eq_true rfl⟩ rfl (Nat.le_of_ble_eq_true rfl) hl.1 dX0_freeSeatFor_6 ⟨Nat.zero_le _, Nat.zero_le _⟩ (fun H locs hW => ?_)
  have hW : Wd D A s.heap (wDa cs a (aR 0) δ ++ (wRo cs aR ρ)) H locs := kw (by simp only [List.append_assoc, List.nil_append, List.append_nil]) hW
  refine lv_istore_n (lv' := [(2, .int r_12), (0, .ref (a 0)), (1, .int p0)]) S.1 S.2.1 dX0_freeSeatFor_9 rfl hl (by decide) rfl (fun ls hl => ?_)
  refine lv_iconst (v := -1) S.1 S.2.1 dX0_freeSeatFor_10 (by decide) ?_
  refine lv_istore_n (lv' := [(3, .int (-1 : Int32)), (2, .int r_12), (0, .ref (a 0)), (1, .int p0)]) S.1 S.2.1 dX0_freeSeatFor_11 rfl hl (by decide) rfl (fun ls hl => ?_)
  refine lv_iconst (v := -1) S.1 S.2.1 dX0_freeSeatFor_12 (by decide) ?_
  refine lv_istore (lv' := [(4, .int (-1 : Int32)), (3, .int (-1 : Int32)), (2, .int r_12), (0, .ref (a 0)), (1, .int p0)]) S.1 S.2.1 dX0_freeSeatFor_13 hl (by decide) rfl (fun ls hl => ?_)
  refine lv_iconst (v := 0) S.1 S.2.1 dX0_freeSeatFor_15 (by decide) ?_
  refine lv_istore (lv' := [(5, .int (0 : Int32)), (4, .int (-1 : Int32)), (3, .int (-1 : Int32)), (2, .int r_12), (0, .ref (a 0)), (1, .int p0)]) S.1 S.2.1 dX0_freeSeatFor_16 hl (by decide) rfl (fun ls hl => ?_)
  exact wDa_freeSeatFor_18 S hK hA hQ N r_12 (-1 : Int32) (-1 : Int32) (0 : Int32) _ _ _ h hW (lv_sub hl [4, 3, 2, 1, 0] rfl)
set_option maxHeartbeats 4000000 in
set_option maxRecDepth 100000 in
theorem wDa_seekSeats_143 {p : Program} {l : Launch} {e : Env} {s : State} {m : MethodId} {args : Array Value} {below : List Frame} {meth : Method} {c : Code} {A : Nat → Prop} {Q : State → Prop} {D : va_G} {cs : Nat → ClassId} {a aR : Nat → Nat} {ρ : St} {δ' : St} {N : Nat} (S : Fx p m c cX0_seekSeats 4 s args RX0) (hK : va_K D vwCl (tyL cs) s) (hA : ∀ x, s.heap.size ≤ x → A x) (hQ : ∀ (H : Heap) (locs : List Loc) (pc : Nat) (ls : Array Slot), decode cX0_seekSeats pc = .ok (.return_, 1) → Wd D A s.heap (wDa cs a (aR 0) δ' ++ (wRo cs aR ρ)) H locs → W p l e { frames := 2, cells := 0, slots := 0, locals := 49 } s m args below meth c H locs 0 0 Q (F0 m pc ls [])) {k_2 : Int32 → Int32 → St → Option (St)} (hk_2 : ∀ (v1 : Int32) (v2 : Int32) (δ : St) (H : Heap) (locs : List Loc) (ls : Array Slot), k_2 v1 v2 δ = some δ' → Wd D A s.heap (wDa cs a (aR 0) δ ++ (wRo cs aR ρ)) H locs → lv_has ls 4 [(0, .ref (a 0)), (1, .int v1), (2, .int v2)] → W p l e { frames := 2, cells := 0, slots := 0, locals := 49 } s m args below meth c H locs 0 0 Q (F0 m 2 ls [])) : ∀ (v1 : Int32) (v2 : Int32) (δ : St) (H : Heap) (locs : List Loc) (ls : Array Slot), fDa_seekSeats_143 k_2 N ρ v1 v2 δ = some δ' → Wd D A s.heap (wDa cs a (aR 0) δ ++ (wRo cs aR ρ)) H locs → lv_has ls 4 [(0, .ref (a 0)), (1, .int v1), (2, .int v2)] → W p l e { frames := 2, cells := 0, slots := 0, locals := 49 } s m args below meth c H locs 0 0 Q (F0 m 143 ls []) := by
  intro v1 v2 δ H locs ls h hW hl
  unfold fDa_seekSeats_143 at h
  obtain ⟨x2_1, ex2_1, h⟩ := nm_some h
  refine lv_iinc (v := x2_1) (lv' := [(2, .int x2_1), (0, .ref (a 0)), (1, .int v1)]) S.1 S.2.1 dX0_seekSeats_143 hl (k := 2) rfl (by rw [ex2_1]; rfl) (by decide) rfl (fun ls hl => ?_)
  refine lv_goto (tgt := 2) S.1 S.2.1 dX0_seekSeats_146 (by decide) ?_
  exact hk_2 v1 x2_1 δ _ _ _ h hW (lv_sub hl [1, 2, 0] rfl)
set_option maxHeartbeats 4000000 in
set_option maxRecDepth 100000 in
theorem wDa_seekSeats_82 {p : Program} {l : Launch} {e : Env} {s : State} {m : MethodId} {args : Array Value} {below : List Frame} {meth : Method} {c : Code} {A : Nat → Prop} {Q : State → Prop} {D : va_G} {cs : Nat → ClassId} {a aR : Nat → Nat} {ρ : St} {δ' : St} {N : Nat} (S : Fx p m c cX0_seekSeats 4 s args RX0) (hK : va_K D vwCl (tyL cs) s) (hA : ∀ x, s.heap.size ≤ x → A x) (hQ : ∀ (H : Heap) (locs : List Loc) (pc : Nat) (ls : Array Slot), decode cX0_seekSeats pc = .ok (.return_, 1) → Wd D A s.heap (wDa cs a (aR 0) δ' ++ (wRo cs aR ρ)) H locs → W p l e { frames := 2, cells := 0, slots := 0, locals := 49 } s m args below meth c H locs 0 0 Q (F0 m pc ls [])) {k_2 : Int32 → Int32 → St → Option (St)} (hk_2 : ∀ (v1 : Int32) (v2 : Int32) (δ : St) (H : Heap) (locs : List Loc) (ls : Array Slot), k_2 v1 v2 δ = some δ' → Wd D A s.heap (wDa cs a (aR 0) δ ++ (wRo cs aR ρ)) H locs → lv_has ls 4 [(0, .ref (a 0)), (1, .int v1), (2, .int v2)] → W p l e { frames := 2, cells := 0, slots := 0, locals := 49 } s m args below meth c H locs 0 0 Q (F0 m 2 ls [])) : ∀ (v1 : Int32) (v2 : Int32) (v3 : Int32) (δ : St) (H : Heap) (locs : List Loc) (ls : Array Slot), fDa_seekSeats_82 k_2 N ρ v1 v2 v3 δ = some δ' → Wd D A s.heap (wDa cs a (aR 0) δ ++ (wRo cs aR ρ)) H locs → lv_has ls 4 [(0, .ref (a 0)), (1, .int v1), (2, .int v2), (3, .int v3)] → W p l e { frames := 2, cells := 0, slots := 0, locals := 49 } s m args below meth c H locs 0 0 Q (F0 m 82 ls []) := by
  intro v1 v2 v3 δ H locs ls h hW hl
  unfold fDa_seekSeats_82 at h
  refine lv_iload_n S.1 S.2.1 dX0_seekSeats_82 rfl (lv_at hl 3 rfl) ?_
  refine lv_iconst (v := -1) S.1 S.2.1 dX0_seekSeats_83 (by decide) ?_
  refine lv_icmp_eq (tgt := 96) S.1 S.2.1 dX0_seekSeats_84 (by decide) (fun c_2 => ?_) (fun c_2 => ?_)
  · have h := ite_t c_2 h
    refine lv_iload_n S.1 S.2.1 dX0_seekSeats_96 rfl (lv_at hl 1 rfl) ?_
    refine lv_aload_n S.1 S.2.1 dX0_seekSeats_97 rfl (lv_at hl 0 rfl) ?_
    refine gDa_since S hK hW dX0_seekSeats_98 ?_
    refine lv_iload_n S.1 S.2.1 dX0_seekSeats_101 rfl (lv_at hl 2 rfl) ?_
    obtain ⟨hi_3, h⟩ := gI_some h
    refine lDa_since S hK hW hi_3 dX0_seekSeats_102 ?_
    refine lv_isub S.1 S.2.1 dX0_seekSeats_103 ?_
    refine lv_aload_n S.1 S.2.1 dX0_seekSeats_104 rfl (lv_at hl 0 rfl) ?_
    refine gDa_room S hK hW dX0_seekSeats_105 ?_
    obtain ⟨r_4, hc_5, h⟩ := cl1_some h
    have hW := kw (w' := (wDa cs a (aR 0) δ) ++ ((wRo cs aR ρ) ++ [])) (by simp only [List.append_assoc, List.nil_append, List.append_nil]) hW
    refine kV_i (As := []) (rest := [.int (v1 - (δ 3 v2.toNatClampNeg))]) S hK hA (z := none) trivial (wDa cs a (aR 0) δ) [] hW (cRo_seekMinutes l D cs aR ρ N hc_5) (ci := 2) rfl rfl lk_X0_150 q473 q474 ⟨Nat.le_of_ble_eq_true rfl, Nat.le_of_ble_eq_true rfl⟩ rfl (Nat.le_of_ble_eq_true rfl) hl.1 dX0_seekSeats_108 ⟨Nat.zero_le _, Nat.zero_le _⟩ (fun H locs hW => ?_)
    have hW : Wd D A s.heap (wDa cs a (aR 0) δ ++ (wRo cs aR ρ)) H locs := kw (by simp only [List.append_assoc, List.nil_append, List.append_nil]) hW
    refine lv_icmp_lt (tgt := 143) S.1 S.2.1 dX0_seekSeats_111 (by decide) (fun c_6 => ?_) (fun c_6 => ?_)
    · have h := ite_t c_6 h
      exact wDa_seekSeats_143 S hK hA hQ hk_2 v1 v2 δ _ _ _ h hW (lv_sub hl [0, 1, 2] rfl)
    · have h := ite_f c_6 h
      refine lv_aload_n S.1 S.2.1 dX0_seekSeats_114 rfl (lv_at hl 0 rfl) ?_
      refine gDa_states S hK hW dX0_seekSeats_115 ?_
      refine lv_iload_n S.1 S.2.1 dX0_seekSeats_118 rfl (lv_at hl 2 rfl) ?_
      refine lv_iconst (v := 4) S.1 S.2.1 dX0_seekSeats_119 (by decide) ?_
      obtain ⟨hi_7, h⟩ := gI_some h
      refine sDa_states S hK hW hi_7 dX0_seekSeats_120 (fun H locs δ_8 eδ_8 hW => ?_)
      have h := nm_to eδ_8 h
      refine lv_aload_n S.1 S.2.1 dX0_seekSeats_121 rfl (lv_at hl 0 rfl) ?_
      refine lv_dup S.1 S.2.1 dX0_seekSeats_122 rfl ?_
      refine gDa_left S hK hW dX0_seekSeats_123 ?_
      refine lv_iconst (v := 1) S.1 S.2.1 dX0_seekSeats_126 (by decide) ?_
      refine lv_isub S.1 S.2.1 dX0_seekSeats_127 ?_
      refine pDa_left S hK hW dX0_seekSeats_128 (fun H locs δ_9 eδ_9 hW => ?_)
      have h := nm_to eδ_9 h
      refine lv_aload_n S.1 S.2.1 dX0_seekSeats_131 rfl (lv_at hl 0 rfl) ?_
      refine lv_dup S.1 S.2.1 dX0_seekSeats_132 rfl ?_
      refine gDa_shutOut S hK hW dX0_seekSeats_133 ?_
      refine lv_iconst (v := 1) S.1 S.2.1 dX0_seekSeats_136 (by decide) ?_
      refine lv_iload_n S.1 S.2.1 dX0_seekSeats_137 rfl (lv_at hl 2 rfl) ?_
      refine lv_ishl S.1 S.2.1 dX0_seekSeats_138 ?_
      refine lv_ior S.1 S.2.1 dX0_seekSeats_139 ?_
      refine pDa_shutOut S hK hW dX0_seekSeats_140 (fun H locs δ_10 eδ_10 hW => ?_)
      have h := nm_to eδ_10 h
      exact wDa_seekSeats_143 S hK hA hQ hk_2 v1 v2 δ_10 _ _ _ h hW (lv_sub hl [0, 1, 2] rfl)
  · have h := ite_f c_2 h
    refine lv_aload_n S.1 S.2.1 dX0_seekSeats_87 rfl (lv_at hl 0 rfl) ?_
    refine lv_iload_n S.1 S.2.1 dX0_seekSeats_88 rfl (lv_at hl 2 rfl) ?_
    refine lv_iload_n S.1 S.2.1 dX0_seekSeats_89 rfl (lv_at hl 3 rfl) ?_
    obtain ⟨δ_11, hc_12, h⟩ := cl1_some h
    have hW := kw_same hW
    refine kV_v (As := [.int v2, .int v3]) (rest := []) S hK hA (z := none) trivial [] [] hW (cDa_sitDown l D cs a aR δ ρ v2 v3 N hc_12) (ci := 0) rfl rfl lk_X0_135 q439 q6 ⟨Nat.le_of_ble_eq_true rfl, Nat.le_of_ble_eq_true rfl⟩ rfl (Nat.le_of_ble_eq_true rfl) hl.1 dX0_seekSeats_90 ⟨Nat.zero_le _, Nat.zero_le _⟩ (fun H locs hW => ?_)
    have hW : Wd D A s.heap (wDa cs a (aR 0) δ_11 ++ (wRo cs aR ρ)) H locs := kw_back hW
    refine lv_goto (tgt := 143) S.1 S.2.1 dX0_seekSeats_93 (by decide) ?_
    exact wDa_seekSeats_143 S hK hA hQ hk_2 v1 v2 δ_11 _ _ _ h hW (lv_sub hl [0, 1, 2] rfl)
set_option maxHeartbeats 4000000 in
set_option maxRecDepth 100000 in
theorem wDa_seekSeats_43 {p : Program} {l : Launch} {e : Env} {s : State} {m : MethodId} {args : Array Value} {below : List Frame} {meth : Method} {c : Code} {A : Nat → Prop} {Q : State → Prop} {D : va_G} {cs : Nat → ClassId} {a aR : Nat → Nat} {ρ : St} {δ' : St} {N : Nat} (S : Fx p m c cX0_seekSeats 4 s args RX0) (hK : va_K D vwCl (tyL cs) s) (hA : ∀ x, s.heap.size ≤ x → A x) (hQ : ∀ (H : Heap) (locs : List Loc) (pc : Nat) (ls : Array Slot), decode cX0_seekSeats pc = .ok (.return_, 1) → Wd D A s.heap (wDa cs a (aR 0) δ' ++ (wRo cs aR ρ)) H locs → W p l e { frames := 2, cells := 0, slots := 0, locals := 49 } s m args below meth c H locs 0 0 Q (F0 m pc ls [])) {k_2 : Int32 → Int32 → St → Option (St)} (hk_2 : ∀ (v1 : Int32) (v2 : Int32) (δ : St) (H : Heap) (locs : List Loc) (ls : Array Slot), k_2 v1 v2 δ = some δ' → Wd D A s.heap (wDa cs a (aR 0) δ ++ (wRo cs aR ρ)) H locs → lv_has ls 4 [(0, .ref (a 0)), (1, .int v1), (2, .int v2)] → W p l e { frames := 2, cells := 0, slots := 0, locals := 49 } s m args below meth c H locs 0 0 Q (F0 m 2 ls [])) : ∀ (v1 : Int32) (v2 : Int32) (δ : St) (H : Heap) (locs : List Loc) (ls : Array Slot), fDa_seekSeats_43 k_2 N ρ v1 v2 δ = some δ' → Wd D A s.heap (wDa cs a (aR 0) δ ++ (wRo cs aR ρ)) H locs → lv_has ls 4 [(0, .ref (a 0)), (1, .int v1), (2, .int v2)] → W p l e { frames := 2, cells := 0, slots := 0, locals := 49 } s m args below meth c H locs 0 0 Q (F0 m 43 ls []) := by
  intro v1 v2 δ H locs ls h hW hl
  unfold fDa_seekSeats_43 at h
  refine lv_aload_n S.1 S.2.1 dX0_seekSeats_43 rfl (lv_at hl 0 rfl) ?_
  refine gDa_states S hK hW dX0_seekSeats_44 ?_
  refine lv_iload_n S.1 S.2.1 dX0_seekSeats_47 rfl (lv_at hl 2 rfl) ?_
  obtain ⟨hi_13, h⟩ := gI_some h
  refine lDa_states S hK hW hi_13 dX0_seekSeats_48 ?_
  refine lv_iconst (v := 1) S.1 S.2.1 dX0_seekSeats_49 (by decide) ?_
  refine lv_icmp_eq (tgt := 56) S.1 S.2.1 dX0_seekSeats_50 (by decide) (fun c_14 => ?_) (fun c_14 => ?_)
  · have h := ite_t c_14 h
    refine lv_aload_n S.1 S.2.1 dX0_seekSeats_56 rfl (lv_at hl 0 rfl) ?_
    refine lv_iload_n S.1 S.2.1 dX0_seekSeats_57 rfl (lv_at hl 2 rfl) ?_
    obtain ⟨r_15, hc_16, h⟩ := cl1_some h
    have hW := kw_same hW
    refine kV_i (As := [.int v2]) (rest := []) S hK hA (z := none) trivial [] [] hW (cDa_freeSeatFor l D cs a aR δ ρ v2 N hc_16) (ci := 0) rfl rfl lk_X0_144 q459 q10 ⟨Nat.le_of_ble_eq_true rfl, Nat.le_of_ble_eq_true rfl⟩ rfl (Nat.le_of_ble_eq_true rfl) hl.1 dX0_seekSeats_58 ⟨Nat.zero_le _, Nat.zero_le _⟩ (fun H locs hW => ?_)
    have hW : Wd D A s.heap (wDa cs a (aR 0) δ ++ (wRo cs aR ρ)) H locs := kw_back hW
    refine lv_istore_n (lv' := [(3, .int r_15), (0, .ref (a 0)), (1, .int v1), (2, .int v2)]) S.1 S.2.1 dX0_seekSeats_61 rfl hl (by decide) rfl (fun ls hl => ?_)
    refine lv_iload_n S.1 S.2.1 dX0_seekSeats_62 rfl (lv_at hl 0 rfl) ?_
    refine lv_iconst (v := -1) S.1 S.2.1 dX0_seekSeats_63 (by decide) ?_
    refine lv_icmp_ne (tgt := 82) S.1 S.2.1 dX0_seekSeats_64 (by decide) (fun c_17 => ?_) (fun c_17 => ?_)
    · have h := ite_f c_17 h
      exact wDa_seekSeats_82 S hK hA hQ hk_2 v1 v2 r_15 δ _ _ _ h hW (lv_sub hl [1, 2, 3, 0] rfl)
    · have h := ite_t c_17 h
      refine lv_aload_n S.1 S.2.1 dX0_seekSeats_67 rfl (lv_at hl 1 rfl) ?_
      refine gDa_rule S hK hW dX0_seekSeats_68 ?_
      refine lv_iconst (v := 4) S.1 S.2.1 dX0_seekSeats_71 (by decide) ?_
      refine lv_icmp_ne (tgt := 82) S.1 S.2.1 dX0_seekSeats_72 (by decide) (fun c_18 => ?_) (fun c_18 => ?_)
      · have h := ite_f c_18 h
        exact wDa_seekSeats_82 S hK hA hQ hk_2 v1 v2 r_15 δ _ _ _ h hW (lv_sub hl [1, 2, 3, 0] rfl)
      · have h := ite_t c_18 h
        refine lv_aload_n S.1 S.2.1 dX0_seekSeats_75 rfl (lv_at hl 1 rfl) ?_
        refine lv_iload_n S.1 S.2.1 dX0_seekSeats_76 rfl (lv_at hl 3 rfl) ?_
        refine lv_iload_n S.1 S.2.1 dX0_seekSeats_77 rfl (lv_at hl 2 rfl) ?_
        obtain ⟨r_19, hc_20, h⟩ := cl1_some h
        have hW := kw_same hW
        refine kV_i (As := [.int v2, .int v1]) (rest := []) S hK hA (z := none) trivial [] [] hW (cDa_daredSeatFor l D cs a aR δ ρ v2 v1 N hc_20) (ci := 0) rfl rfl lk_X0_147 q470 q11 ⟨Nat.le_of_ble_eq_true rfl, Nat.le_of_ble_eq_true rfl⟩ rfl (Nat.le_of_ble_eq_true rfl) hl.1 dX0_seekSeats_78 ⟨Nat.zero_le _, Nat.zero_le _⟩ (fun H locs hW => ?_)
        have hW : Wd D A s.heap (wDa cs a (aR 0) δ ++ (wRo cs aR ρ)) H locs := kw_back hW
        refine lv_istore_n (lv' := [(3, .int r_19), (0, .ref (a 0)), (1, .int v1), (2, .int v2)]) S.1 S.2.1 dX0_seekSeats_81 rfl hl (by decide) rfl (fun ls hl => ?_)
        exact wDa_seekSeats_82 S hK hA hQ hk_2 v1 v2 r_19 δ _ _ _ h hW (lv_sub hl [1, 2, 3, 0] rfl)
  · have h := ite_f c_14 h
    refine lv_goto (tgt := 143) S.1 S.2.1 dX0_seekSeats_53 (by decide) ?_
    exact wDa_seekSeats_143 S hK hA hQ hk_2 v1 v2 δ _ _ _ h hW (lv_sub hl [0, 1, 2] rfl)
set_option maxHeartbeats 4000000 in
set_option maxRecDepth 100000 in
theorem wDa_seekSeats_2 {p : Program} {l : Launch} {e : Env} {s : State} {m : MethodId} {args : Array Value} {below : List Frame} {meth : Method} {c : Code} {A : Nat → Prop} {Q : State → Prop} {D : va_G} {cs : Nat → ClassId} {a aR : Nat → Nat} {ρ : St} {δ' : St} {N : Nat} (S : Fx p m c cX0_seekSeats 4 s args RX0) (hK : va_K D vwCl (tyL cs) s) (hA : ∀ x, s.heap.size ≤ x → A x) (hQ : ∀ (H : Heap) (locs : List Loc) (pc : Nat) (ls : Array Slot), decode cX0_seekSeats pc = .ok (.return_, 1) → Wd D A s.heap (wDa cs a (aR 0) δ' ++ (wRo cs aR ρ)) H locs → W p l e { frames := 2, cells := 0, slots := 0, locals := 49 } s m args below meth c H locs 0 0 Q (F0 m pc ls [])) : ∀ (n_2 : Nat) (v1 : Int32) (v2 : Int32) (δ : St) (H : Heap) (locs : List Loc) (ls : Array Slot), fDa_seekSeats_2 N ρ n_2 v1 v2 δ = some δ' → Wd D A s.heap (wDa cs a (aR 0) δ ++ (wRo cs aR ρ)) H locs → lv_has ls 4 [(0, .ref (a 0)), (1, .int v1), (2, .int v2)] → W p l e { frames := 2, cells := 0, slots := 0, locals := 49 } s m args below meth c H locs 0 0 Q (F0 m 2 ls []) := by
  intro n_2
  induction n_2 with
  | zero =>
    intro v1 v2 δ H locs ls h
    cases h
  | succ n_2 ih =>
    intro v1 v2 δ H locs ls h hW hl
    unfold fDa_seekSeats_2 at h
    refine lv_iload_n S.1 S.2.1 dX0_seekSeats_2 rfl (lv_at hl 2 rfl) ?_
    refine lv_aload_n S.1 S.2.1 dX0_seekSeats_3 rfl (lv_at hl 0 rfl) ?_
    refine gDa_readers S hK hW dX0_seekSeats_4 ?_
    refine lv_icmp_ge (tgt := 149) S.1 S.2.1 dX0_seekSeats_7 (by decide) (fun c_21 => ?_) (fun c_21 => ?_)
    · have h := ite_t c_21 h
      obtain rfl := pr1 h
      exact hQ _ _ _ _ dX0_seekSeats_149 hW
    · have h := ite_f c_21 h
      refine lv_aload_n S.1 S.2.1 dX0_seekSeats_10 rfl (lv_at hl 0 rfl) ?_
      refine gDa_states S hK hW dX0_seekSeats_11 ?_
      refine lv_iload_n S.1 S.2.1 dX0_seekSeats_14 rfl (lv_at hl 2 rfl) ?_
      obtain ⟨hi_22, h⟩ := gI_some h
      refine lDa_states S hK hW hi_22 dX0_seekSeats_15 ?_
      refine lv_if_ne (tgt := 43) S.1 S.2.1 dX0_seekSeats_16 (by decide) (fun c_23 => ?_) (fun c_23 => ?_)
      · have h := ite_f c_23 h
        exact wDa_seekSeats_43 S hK hA hQ ih v1 v2 δ _ _ _ h hW (lv_sub hl [0, 1, 2] rfl)
      · have h := ite_t c_23 h
        refine lv_aload_n S.1 S.2.1 dX0_seekSeats_19 rfl (lv_at hl 0 rfl) ?_
        refine gDa_arrivals S hK hW dX0_seekSeats_20 ?_
        refine lv_iload_n S.1 S.2.1 dX0_seekSeats_23 rfl (lv_at hl 2 rfl) ?_
        obtain ⟨hi_24, h⟩ := gI_some h
        refine lDa_arrivals S hK hW hi_24 dX0_seekSeats_24 ?_
        refine lv_iload_n S.1 S.2.1 dX0_seekSeats_25 rfl (lv_at hl 1 rfl) ?_
        refine lv_icmp_ne (tgt := 43) S.1 S.2.1 dX0_seekSeats_26 (by decide) (fun c_25 => ?_) (fun c_25 => ?_)
        · have h := ite_f c_25 h
          exact wDa_seekSeats_43 S hK hA hQ ih v1 v2 δ _ _ _ h hW (lv_sub hl [0, 1, 2] rfl)
        · have h := ite_t c_25 h
          refine lv_aload_n S.1 S.2.1 dX0_seekSeats_29 rfl (lv_at hl 0 rfl) ?_
          refine gDa_states S hK hW dX0_seekSeats_30 ?_
          refine lv_iload_n S.1 S.2.1 dX0_seekSeats_33 rfl (lv_at hl 2 rfl) ?_
          refine lv_iconst (v := 1) S.1 S.2.1 dX0_seekSeats_34 (by decide) ?_
          obtain ⟨hi_26, h⟩ := gI_some h
          refine sDa_states S hK hW hi_26 dX0_seekSeats_35 (fun H locs δ_27 eδ_27 hW => ?_)
          have h := nm_to eδ_27 h
          refine lv_aload_n S.1 S.2.1 dX0_seekSeats_36 rfl (lv_at hl 0 rfl) ?_
          refine gDa_since S hK hW dX0_seekSeats_37 ?_
          refine lv_iload_n S.1 S.2.1 dX0_seekSeats_40 rfl (lv_at hl 2 rfl) ?_
          refine lv_iload_n S.1 S.2.1 dX0_seekSeats_41 rfl (lv_at hl 1 rfl) ?_
          obtain ⟨hi_28, h⟩ := gI_some h
          refine sDa_since S hK hW hi_28 dX0_seekSeats_42 (fun H locs δ_29 eδ_29 hW => ?_)
          have h := nm_to eδ_29 h
          exact wDa_seekSeats_43 S hK hA hQ ih v1 v2 δ_29 _ _ _ h hW (lv_sub hl [0, 1, 2] rfl)
set_option maxHeartbeats 4000000 in
set_option maxRecDepth 100000 in
theorem cDa_seekSeats (l : Launch) (D : va_G) (cs : Nat → ClassId) (a aR : Nat → Nat) (δ : St) (ρ : St) (p0 : Int32) (N : Nat) {δ' : St} (h : fDa_seekSeats N p0 ρ δ = some δ') : Kv l D cs none yX0_seekSeats cX0_seekSeats 4 none 2 49 (wDa cs a (aR 0) δ ++ (wRo cs aR ρ)) [.ref (a 0), .int p0] (wDa cs a (aR 0) δ' ++ (wRo cs aR ρ)) := by
  refine Kv_of (by decide +kernel) (Nat.le_of_ble_eq_true rfl) (fun p e s m below meth c A S hK hA hZ Q hQ ls hl hW => ?_)
  have hl : lv_has ls 4 [(0, .ref (a 0)), (1, .int p0)] := hl
  unfold fDa_seekSeats at h
  refine lv_iconst (v := 0) S.1 S.2.1 dX0_seekSeats_0 (by decide) ?_
  refine lv_istore_n (lv' := [(2, .int (0 : Int32)), (0, .ref (a 0)), (1, .int p0)]) S.1 S.2.1 dX0_seekSeats_1 rfl hl (by decide) rfl (fun ls hl => ?_)
  exact wDa_seekSeats_2 S hK hA hQ N p0 (0 : Int32) δ _ _ _ h hW (lv_sub hl [1, 2, 0] rfl)
set_option maxHeartbeats 4000000 in
set_option maxRecDepth 100000 in
theorem wDa_sitOn_160 {p : Program} {l : Launch} {e : Env} {s : State} {m : MethodId} {args : Array Value} {below : List Frame} {meth : Method} {c : Code} {A : Nat → Prop} {Q : State → Prop} {D : va_G} {cs : Nat → ClassId} {a aR : Nat → Nat} {ρ : St} {δ' : St} {N : Nat} (S : Fx p m c cX0_sitOn 4 s args RX0) (hK : va_K D vwCl (tyL cs) s) (hA : ∀ x, s.heap.size ≤ x → A x) (hQ : ∀ (H : Heap) (locs : List Loc) (pc : Nat) (ls : Array Slot), decode cX0_sitOn pc = .ok (.return_, 1) → Wd D A s.heap (wDa cs a (aR 0) δ' ++ (wRo cs aR ρ)) H locs → W p l e { frames := 1, cells := 0, slots := 0, locals := 23 } s m args below meth c H locs 0 0 Q (F0 m pc ls [])) {k_2 : Int32 → Int32 → St → Option (St)} (hk_2 : ∀ (v1 : Int32) (v2 : Int32) (δ : St) (H : Heap) (locs : List Loc) (ls : Array Slot), k_2 v1 v2 δ = some δ' → Wd D A s.heap (wDa cs a (aR 0) δ ++ (wRo cs aR ρ)) H locs → lv_has ls 4 [(0, .ref (a 0)), (1, .int v1), (2, .int v2)] → W p l e { frames := 1, cells := 0, slots := 0, locals := 23 } s m args below meth c H locs 0 0 Q (F0 m 2 ls [])) : ∀ (v1 : Int32) (v2 : Int32) (δ : St) (H : Heap) (locs : List Loc) (ls : Array Slot), fDa_sitOn_160 k_2 N ρ v1 v2 δ = some δ' → Wd D A s.heap (wDa cs a (aR 0) δ ++ (wRo cs aR ρ)) H locs → lv_has ls 4 [(0, .ref (a 0)), (1, .int v1), (2, .int v2)] → W p l e { frames := 1, cells := 0, slots := 0, locals := 23 } s m args below meth c H locs 0 0 Q (F0 m 160 ls []) := by
  intro v1 v2 δ H locs ls h hW hl
  unfold fDa_sitOn_160 at h
  obtain ⟨x2_1, ex2_1, h⟩ := nm_some h
  refine lv_iinc (v := x2_1) (lv' := [(2, .int x2_1), (0, .ref (a 0)), (1, .int v1)]) S.1 S.2.1 dX0_sitOn_160 hl (k := 2) rfl (by rw [ex2_1]; rfl) (by decide) rfl (fun ls hl => ?_)
  refine lv_goto (tgt := 2) S.1 S.2.1 dX0_sitOn_163 (by decide) ?_
  exact hk_2 v1 x2_1 δ _ _ _ h hW (lv_sub hl [1, 2, 0] rfl)
set_option maxHeartbeats 4000000 in
set_option maxRecDepth 100000 in
theorem wDa_sitOn_145 {p : Program} {l : Launch} {e : Env} {s : State} {m : MethodId} {args : Array Value} {below : List Frame} {meth : Method} {c : Code} {A : Nat → Prop} {Q : State → Prop} {D : va_G} {cs : Nat → ClassId} {a aR : Nat → Nat} {ρ : St} {δ' : St} {N : Nat} (S : Fx p m c cX0_sitOn 4 s args RX0) (hK : va_K D vwCl (tyL cs) s) (hA : ∀ x, s.heap.size ≤ x → A x) (hQ : ∀ (H : Heap) (locs : List Loc) (pc : Nat) (ls : Array Slot), decode cX0_sitOn pc = .ok (.return_, 1) → Wd D A s.heap (wDa cs a (aR 0) δ' ++ (wRo cs aR ρ)) H locs → W p l e { frames := 1, cells := 0, slots := 0, locals := 23 } s m args below meth c H locs 0 0 Q (F0 m pc ls [])) {k_2 : Int32 → Int32 → St → Option (St)} (hk_2 : ∀ (v1 : Int32) (v2 : Int32) (δ : St) (H : Heap) (locs : List Loc) (ls : Array Slot), k_2 v1 v2 δ = some δ' → Wd D A s.heap (wDa cs a (aR 0) δ ++ (wRo cs aR ρ)) H locs → lv_has ls 4 [(0, .ref (a 0)), (1, .int v1), (2, .int v2)] → W p l e { frames := 1, cells := 0, slots := 0, locals := 23 } s m args below meth c H locs 0 0 Q (F0 m 2 ls [])) : ∀ (v1 : Int32) (v2 : Int32) (k1 : Int32) (k2 : Int32) (δ : St) (H : Heap) (locs : List Loc) (ls : Array Slot), fDa_sitOn_145 k_2 N ρ v1 v2 k1 k2 δ = some δ' → Wd D A s.heap (wDa cs a (aR 0) δ ++ (wRo cs aR ρ)) H locs → lv_has ls 4 [(0, .ref (a 0)), (1, .int v1), (2, .int v2)] → W p l e { frames := 1, cells := 0, slots := 0, locals := 23 } s m args below meth c H locs 0 0 Q (F0 m 145 ls [.int k2, .int k1, .ref (a 7)]) := by
  intro v1 v2 k1 k2 δ H locs ls h hW hl
  unfold fDa_sitOn_145 at h
  obtain ⟨hi_2, h⟩ := gI_some h
  refine sDa_seatHolders S hK hW hi_2 dX0_sitOn_145 (fun H locs δ_3 eδ_3 hW => ?_)
  have h := nm_to eδ_3 h
  refine lv_aload_n S.1 S.2.1 dX0_sitOn_146 rfl (lv_at hl 0 rfl) ?_
  refine gDa_states S hK hW dX0_sitOn_147 ?_
  refine lv_iload_n S.1 S.2.1 dX0_sitOn_150 rfl (lv_at hl 2 rfl) ?_
  refine lv_iconst (v := 3) S.1 S.2.1 dX0_sitOn_151 (by decide) ?_
  obtain ⟨hi_4, h⟩ := gI_some h
  refine sDa_states S hK hW hi_4 dX0_sitOn_152 (fun H locs δ_5 eδ_5 hW => ?_)
  have h := nm_to eδ_5 h
  refine lv_aload_n S.1 S.2.1 dX0_sitOn_153 rfl (lv_at hl 0 rfl) ?_
  refine gDa_since S hK hW dX0_sitOn_154 ?_
  refine lv_iload_n S.1 S.2.1 dX0_sitOn_157 rfl (lv_at hl 2 rfl) ?_
  refine lv_iload_n S.1 S.2.1 dX0_sitOn_158 rfl (lv_at hl 1 rfl) ?_
  obtain ⟨hi_6, h⟩ := gI_some h
  refine sDa_since S hK hW hi_6 dX0_sitOn_159 (fun H locs δ_7 eδ_7 hW => ?_)
  have h := nm_to eδ_7 h
  exact wDa_sitOn_160 S hK hA hQ hk_2 v1 v2 δ_7 _ _ _ h hW (lv_sub hl [0, 1, 2] rfl)
set_option maxHeartbeats 4000000 in
set_option maxRecDepth 100000 in
theorem wDa_sitOn_2 {p : Program} {l : Launch} {e : Env} {s : State} {m : MethodId} {args : Array Value} {below : List Frame} {meth : Method} {c : Code} {A : Nat → Prop} {Q : State → Prop} {D : va_G} {cs : Nat → ClassId} {a aR : Nat → Nat} {ρ : St} {δ' : St} {N : Nat} (S : Fx p m c cX0_sitOn 4 s args RX0) (hK : va_K D vwCl (tyL cs) s) (hA : ∀ x, s.heap.size ≤ x → A x) (hQ : ∀ (H : Heap) (locs : List Loc) (pc : Nat) (ls : Array Slot), decode cX0_sitOn pc = .ok (.return_, 1) → Wd D A s.heap (wDa cs a (aR 0) δ' ++ (wRo cs aR ρ)) H locs → W p l e { frames := 1, cells := 0, slots := 0, locals := 23 } s m args below meth c H locs 0 0 Q (F0 m pc ls [])) : ∀ (n_2 : Nat) (v1 : Int32) (v2 : Int32) (δ : St) (H : Heap) (locs : List Loc) (ls : Array Slot), fDa_sitOn_2 N ρ n_2 v1 v2 δ = some δ' → Wd D A s.heap (wDa cs a (aR 0) δ ++ (wRo cs aR ρ)) H locs → lv_has ls 4 [(0, .ref (a 0)), (1, .int v1), (2, .int v2)] → W p l e { frames := 1, cells := 0, slots := 0, locals := 23 } s m args below meth c H locs 0 0 Q (F0 m 2 ls []) := by
  intro n_2
  induction n_2 with
  | zero =>
    intro v1 v2 δ H locs ls h
    cases h
  | succ n_2 ih =>
    intro v1 v2 δ H locs ls h hW hl
    unfold fDa_sitOn_2 at h
    refine lv_iload_n S.1 S.2.1 dX0_sitOn_2 rfl (lv_at hl 2 rfl) ?_
    refine lv_aload_n S.1 S.2.1 dX0_sitOn_3 rfl (lv_at hl 0 rfl) ?_
    refine gDa_readers S hK hW dX0_sitOn_4 ?_
    refine lv_icmp_ge (tgt := 166) S.1 S.2.1 dX0_sitOn_7 (by decide) (fun c_8 => ?_) (fun c_8 => ?_)
    · have h := ite_t c_8 h
      obtain rfl := pr1 h
      exact hQ _ _ _ _ dX0_sitOn_166 hW
    · have h := ite_f c_8 h
      refine lv_aload_n S.1 S.2.1 dX0_sitOn_10 rfl (lv_at hl 0 rfl) ?_
      refine gDa_places S hK hW dX0_sitOn_11 ?_
      refine lv_iload_n S.1 S.2.1 dX0_sitOn_14 rfl (lv_at hl 2 rfl) ?_
      obtain ⟨hi_9, h⟩ := gI_some h
      refine lDa_places S hK hW hi_9 dX0_sitOn_15 ?_
      refine lv_topi (fun x3_10 ex3_10 => ?_)
      have h := nm_to ex3_10 h
      refine lv_istore_n (lv' := [(3, .int x3_10), (0, .ref (a 0)), (1, .int v1), (2, .int v2)]) S.1 S.2.1 dX0_sitOn_16 rfl hl (by decide) rfl (fun ls hl => ?_)
      refine lv_aload_n S.1 S.2.1 dX0_sitOn_17 rfl (lv_at hl 1 rfl) ?_
      refine gDa_states S hK hW dX0_sitOn_18 ?_
      refine lv_iload_n S.1 S.2.1 dX0_sitOn_21 rfl (lv_at hl 3 rfl) ?_
      obtain ⟨hi_11, h⟩ := gI_some h
      refine lDa_states S hK hW hi_11 dX0_sitOn_22 ?_
      refine lv_iconst (v := 2) S.1 S.2.1 dX0_sitOn_23 (by decide) ?_
      refine lv_icmp_ne (tgt := 160) S.1 S.2.1 dX0_sitOn_24 (by decide) (fun c_12 => ?_) (fun c_12 => ?_)
      · have h := ite_f c_12 h
        exact wDa_sitOn_160 S hK hA hQ ih v1 v2 δ _ _ _ h hW (lv_sub hl [1, 2, 3] rfl)
      · have h := ite_t c_12 h
        refine lv_iload_n S.1 S.2.1 dX0_sitOn_27 rfl (lv_at hl 0 rfl) ?_
        refine lv_if_lt (tgt := 160) S.1 S.2.1 dX0_sitOn_28 (by decide) (fun c_13 => ?_) (fun c_13 => ?_)
        · have h := ite_t c_13 h
          exact wDa_sitOn_160 S hK hA hQ ih v1 v2 δ _ _ _ h hW (lv_sub hl [1, 2, 3] rfl)
        · have h := ite_f c_13 h
          refine lv_iload_n S.1 S.2.1 dX0_sitOn_31 rfl (lv_at hl 0 rfl) ?_
          refine lv_aload_n S.1 S.2.1 dX0_sitOn_32 rfl (lv_at hl 1 rfl) ?_
          refine gDa_sitters S hK hW dX0_sitOn_33 ?_
          refine nDa_sitters S hK hW dX0_sitOn_36 ?_
          refine lv_icmp_lt (tgt := 43) S.1 S.2.1 dX0_sitOn_37 (by decide) (fun c_14 => ?_) (fun c_14 => ?_)
          · have h := ite_t c_14 h
            refine lv_aload_n S.1 S.2.1 dX0_sitOn_43 rfl (lv_at hl 1 rfl) ?_
            refine gDa_minutesSat S hK hW dX0_sitOn_44 ?_
            refine lv_iload_n S.1 S.2.1 dX0_sitOn_47 rfl (lv_at hl 3 rfl) ?_
            refine lv_dup2_11 S.1 S.2.1 dX0_sitOn_48 rfl rfl ?_
            obtain ⟨hi_15, h⟩ := gI_some h
            refine lDa_minutesSat S hK hW hi_15 dX0_sitOn_49 ?_
            refine lv_iconst (v := 1) S.1 S.2.1 dX0_sitOn_50 (by decide) ?_
            refine lv_iadd S.1 S.2.1 dX0_sitOn_51 ?_
            obtain ⟨hi_16, h⟩ := gI_some h
            refine sDa_minutesSat S hK hW hi_16 dX0_sitOn_52 (fun H locs δ_17 eδ_17 hW => ?_)
            have h := nm_to eδ_17 h
            refine lv_aload_n S.1 S.2.1 dX0_sitOn_53 rfl (lv_at hl 1 rfl) ?_
            refine gDa_minutesSat S hK hW dX0_sitOn_54 ?_
            refine lv_iload_n S.1 S.2.1 dX0_sitOn_57 rfl (lv_at hl 3 rfl) ?_
            obtain ⟨hi_18, h⟩ := gI_some h
            refine lDa_minutesSat S hK hW hi_18 dX0_sitOn_58 ?_
            refine lv_aload_n S.1 S.2.1 dX0_sitOn_59 rfl (lv_at hl 1 rfl) ?_
            refine gDa_room S hK hW dX0_sitOn_60 ?_
            refine lv_iload_n S.1 S.2.1 dX0_sitOn_63 rfl (lv_at hl 3 rfl) ?_
            refine lv_iconst (v := 1) S.1 S.2.1 dX0_sitOn_64 (by decide) ?_
            obtain ⟨r_19, hc_20, h⟩ := cl1_some h
            have hW := kw (w' := (wDa cs a (aR 0) δ_17) ++ ((wRo cs aR ρ) ++ [])) (by simp only [List.append_assoc, List.nil_append, List.append_nil]) hW
            refine kV_i (As := [.int v2, .int (1 : Int32)]) (rest := [.int (δ_17 4 v2.toNatClampNeg)]) S hK hA (z := none) trivial (wDa cs a (aR 0) δ_17) [] hW (cRo_number l D cs aR ρ v2 (1 : Int32) N hc_20) (ci := 2) rfl rfl lk_X0_78 q374 q375 ⟨Nat.le_of_ble_eq_true rfl, Nat.le_of_ble_eq_true rfl⟩ rfl (Nat.le_of_ble_eq_true rfl) hl.1 dX0_sitOn_65 ⟨Nat.zero_le _, Nat.zero_le _⟩ (fun H locs hW => ?_)
            have hW : Wd D A s.heap (wDa cs a (aR 0) δ_17 ++ (wRo cs aR ρ)) H locs := kw (by simp only [List.append_assoc, List.nil_append, List.append_nil]) hW
            refine lv_icmp_lt (tgt := 98) S.1 S.2.1 dX0_sitOn_68 (by decide) (fun c_21 => ?_) (fun c_21 => ?_)
            · have h := ite_t c_21 h
              refine lv_aload_n S.1 S.2.1 dX0_sitOn_98 rfl (lv_at hl 1 rfl) ?_
              refine gDa_minutesSat S hK hW dX0_sitOn_99 ?_
              refine lv_iload_n S.1 S.2.1 dX0_sitOn_102 rfl (lv_at hl 3 rfl) ?_
              obtain ⟨hi_22, h⟩ := gI_some h
              refine lDa_minutesSat S hK hW hi_22 dX0_sitOn_103 ?_
              refine lv_aload_n S.1 S.2.1 dX0_sitOn_104 rfl (lv_at hl 1 rfl) ?_
              refine gDa_room S hK hW dX0_sitOn_105 ?_
              refine lv_iload_n S.1 S.2.1 dX0_sitOn_108 rfl (lv_at hl 3 rfl) ?_
              refine lv_iconst (v := 2) S.1 S.2.1 dX0_sitOn_109 (by decide) ?_
              obtain ⟨r_23, hc_24, h⟩ := cl1_some h
              have hW := kw (w' := (wDa cs a (aR 0) δ_17) ++ ((wRo cs aR ρ) ++ [])) (by simp only [List.append_assoc, List.nil_append, List.append_nil]) hW
              refine kV_i (As := [.int v2, .int (2 : Int32)]) (rest := [.int (δ_17 4 v2.toNatClampNeg)]) S hK hA (z := none) trivial (wDa cs a (aR 0) δ_17) [] hW (cRo_number l D cs aR ρ v2 (2 : Int32) N hc_24) (ci := 2) rfl rfl lk_X0_78 q374 q375 ⟨Nat.le_of_ble_eq_true rfl, Nat.le_of_ble_eq_true rfl⟩ rfl (Nat.le_of_ble_eq_true rfl) hl.1 dX0_sitOn_110 ⟨Nat.zero_le _, Nat.zero_le _⟩ (fun H locs hW => ?_)
              have hW : Wd D A s.heap (wDa cs a (aR 0) δ_17 ++ (wRo cs aR ρ)) H locs := kw (by simp only [List.append_assoc, List.nil_append, List.append_nil]) hW
              refine lv_icmp_ne (tgt := 160) S.1 S.2.1 dX0_sitOn_113 (by decide) (fun c_25 => ?_) (fun c_25 => ?_)
              · have h := ite_f c_25 h
                exact wDa_sitOn_160 S hK hA hQ ih v1 v2 δ_17 _ _ _ h hW (lv_sub hl [1, 2, 3] rfl)
              · have h := ite_t c_25 h
                refine lv_aload_n S.1 S.2.1 dX0_sitOn_116 rfl (lv_at hl 1 rfl) ?_
                refine gDa_sitters S hK hW dX0_sitOn_117 ?_
                refine lv_iload_n S.1 S.2.1 dX0_sitOn_120 rfl (lv_at hl 0 rfl) ?_
                refine lv_iconst (v := -1) S.1 S.2.1 dX0_sitOn_121 (by decide) ?_
                obtain ⟨hi_26, h⟩ := gI_some h
                refine sDa_sitters S hK hW hi_26 dX0_sitOn_122 (fun H locs δ_27 eδ_27 hW => ?_)
                have h := nm_to eδ_27 h
                refine lv_aload_n S.1 S.2.1 dX0_sitOn_123 rfl (lv_at hl 1 rfl) ?_
                refine gDa_seatHolders S hK hW dX0_sitOn_124 ?_
                refine lv_iload_n S.1 S.2.1 dX0_sitOn_127 rfl (lv_at hl 0 rfl) ?_
                refine lv_aload_n S.1 S.2.1 dX0_sitOn_128 rfl (lv_at hl 1 rfl) ?_
                refine gDa_holders S hK hW dX0_sitOn_129 ?_
                refine lv_iload_n S.1 S.2.1 dX0_sitOn_132 rfl (lv_at hl 3 rfl) ?_
                refine lv_ishr S.1 S.2.1 dX0_sitOn_133 ?_
                refine lv_iconst (v := 1) S.1 S.2.1 dX0_sitOn_134 (by decide) ?_
                refine lv_iand S.1 S.2.1 dX0_sitOn_135 ?_
                refine lv_iconst (v := 1) S.1 S.2.1 dX0_sitOn_136 (by decide) ?_
                refine lv_icmp_ne (tgt := 144) S.1 S.2.1 dX0_sitOn_137 (by decide) (fun c_28 => ?_) (fun c_28 => ?_)
                · have h := ite_f c_28 h
                  refine lv_iconst (v := -1) S.1 S.2.1 dX0_sitOn_144 (by decide) ?_
                  exact wDa_sitOn_145 S hK hA hQ ih v1 v2 x3_10 (-1 : Int32) δ_27 _ _ _ h hW (lv_sub hl [1, 2, 3] rfl)
                · have h := ite_t c_28 h
                  refine lv_iload_n S.1 S.2.1 dX0_sitOn_140 rfl (lv_at hl 3 rfl) ?_
                  refine lv_goto (tgt := 145) S.1 S.2.1 dX0_sitOn_141 (by decide) ?_
                  exact wDa_sitOn_145 S hK hA hQ ih v1 v2 x3_10 v2 δ_27 _ _ _ h hW (lv_sub hl [1, 2, 3] rfl)
            · have h := ite_f c_21 h
              refine lv_aload_n S.1 S.2.1 dX0_sitOn_71 rfl (lv_at hl 1 rfl) ?_
              refine gDa_sitters S hK hW dX0_sitOn_72 ?_
              refine lv_iload_n S.1 S.2.1 dX0_sitOn_75 rfl (lv_at hl 0 rfl) ?_
              refine lv_iconst (v := -1) S.1 S.2.1 dX0_sitOn_76 (by decide) ?_
              obtain ⟨hi_29, h⟩ := gI_some h
              refine sDa_sitters S hK hW hi_29 dX0_sitOn_77 (fun H locs δ_30 eδ_30 hW => ?_)
              have h := nm_to eδ_30 h
              refine lv_aload_n S.1 S.2.1 dX0_sitOn_78 rfl (lv_at hl 1 rfl) ?_
              refine gDa_states S hK hW dX0_sitOn_79 ?_
              refine lv_iload_n S.1 S.2.1 dX0_sitOn_82 rfl (lv_at hl 3 rfl) ?_
              refine lv_iconst (v := 4) S.1 S.2.1 dX0_sitOn_83 (by decide) ?_
              obtain ⟨hi_31, h⟩ := gI_some h
              refine sDa_states S hK hW hi_31 dX0_sitOn_84 (fun H locs δ_32 eδ_32 hW => ?_)
              have h := nm_to eδ_32 h
              refine lv_aload_n S.1 S.2.1 dX0_sitOn_85 rfl (lv_at hl 1 rfl) ?_
              refine lv_dup S.1 S.2.1 dX0_sitOn_86 rfl ?_
              refine gDa_left S hK hW dX0_sitOn_87 ?_
              refine lv_iconst (v := 1) S.1 S.2.1 dX0_sitOn_90 (by decide) ?_
              refine lv_isub S.1 S.2.1 dX0_sitOn_91 ?_
              refine pDa_left S hK hW dX0_sitOn_92 (fun H locs δ_33 eδ_33 hW => ?_)
              have h := nm_to eδ_33 h
              refine lv_goto (tgt := 160) S.1 S.2.1 dX0_sitOn_95 (by decide) ?_
              exact wDa_sitOn_160 S hK hA hQ ih v1 v2 δ_33 _ _ _ h hW (lv_sub hl [1, 2, 3] rfl)
          · have h := ite_f c_14 h
            refine lv_goto (tgt := 160) S.1 S.2.1 dX0_sitOn_40 (by decide) ?_
            exact wDa_sitOn_160 S hK hA hQ ih v1 v2 δ _ _ _ h hW (lv_sub hl [1, 2, 3] rfl)
set_option maxHeartbeats 4000000 in
set_option maxRecDepth 100000 in
theorem cDa_sitOn (l : Launch) (D : va_G) (cs : Nat → ClassId) (a aR : Nat → Nat) (δ : St) (ρ : St) (p0 : Int32) (N : Nat) {δ' : St} (h : fDa_sitOn N p0 ρ δ = some δ') : Kv l D cs none yX0_sitOn cX0_sitOn 4 none 1 23 (wDa cs a (aR 0) δ ++ (wRo cs aR ρ)) [.ref (a 0), .int p0] (wDa cs a (aR 0) δ' ++ (wRo cs aR ρ)) := by
  refine Kv_of (by decide +kernel) (Nat.le_of_ble_eq_true rfl) (fun p e s m below meth c A S hK hA hZ Q hQ ls hl hW => ?_)
  have hl : lv_has ls 4 [(0, .ref (a 0)), (1, .int p0)] := hl
  unfold fDa_sitOn at h
  refine lv_iconst (v := 0) S.1 S.2.1 dX0_sitOn_0 (by decide) ?_
  refine lv_istore_n (lv' := [(2, .int (0 : Int32)), (0, .ref (a 0)), (1, .int p0)]) S.1 S.2.1 dX0_sitOn_1 rfl hl (by decide) rfl (fun ls hl => ?_)
  exact wDa_sitOn_2 S hK hA hQ N p0 (0 : Int32) δ _ _ _ h hW (lv_sub hl [1, 2, 0] rfl)
