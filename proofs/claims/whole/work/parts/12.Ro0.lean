set_option maxHeartbeats 4000000 in
set_option maxRecDepth 100000 in
theorem cRo_clear (l : Launch) (D : va_G) (cs : Nat → ClassId) (a : Nat → Nat) (ρ : St) (N : Nat) {ρ' : St} (h : fRo_clear N ρ = some ρ') : Kv l D cs none yX3_clear cX3_clear 1 none 0 0 (wRo cs a ρ) [.ref (a 0)] (wRo cs a ρ') := by
  refine Kv_of (by decide +kernel) (Nat.le_of_ble_eq_true rfl) (fun p e s m below meth c A S hK hA hZ Q hQ ls hl hW => ?_)
  have hl : lv_has ls 1 [(0, .ref (a 0))] := hl
  unfold fRo_clear at h
  refine lv_aload_n S.1 S.2.1 dX3_clear_0 rfl (lv_at hl 0 rfl) ?_
  refine lv_iconst (v := 0) S.1 S.2.1 dX3_clear_1 (by decide) ?_
  refine pRo_seats S hK hW dX3_clear_2 (fun H locs ρ_1 eρ_1 hW => ?_)
  have h := nm_to eρ_1 h
  refine lv_aload_n S.1 S.2.1 dX3_clear_5 rfl (lv_at hl 0 rfl) ?_
  refine lv_iconst (v := 0) S.1 S.2.1 dX3_clear_6 (by decide) ?_
  refine pRo_readers S hK hW dX3_clear_7 (fun H locs ρ_2 eρ_2 hW => ?_)
  have h := nm_to eρ_2 h
  refine lv_aload_n S.1 S.2.1 dX3_clear_10 rfl (lv_at hl 0 rfl) ?_
  refine lv_bipush (v := 30) S.1 S.2.1 dX3_clear_11 (by decide) ?_
  refine pRo_cardMinutes S hK hW dX3_clear_13 (fun H locs ρ_3 eρ_3 hW => ?_)
  have h := nm_to eρ_3 h
  refine lv_aload_n S.1 S.2.1 dX3_clear_16 rfl (lv_at hl 0 rfl) ?_
  refine lv_bipush (v := 20) S.1 S.2.1 dX3_clear_17 (by decide) ?_
  refine pRo_porterMinutes S hK hW dX3_clear_19 (fun H locs ρ_4 eρ_4 hW => ?_)
  have h := nm_to eρ_4 h
  refine lv_aload_n S.1 S.2.1 dX3_clear_22 rfl (lv_at hl 0 rfl) ?_
  refine lv_bipush (v := 15) S.1 S.2.1 dX3_clear_23 (by decide) ?_
  refine pRo_lampMinutes S hK hW dX3_clear_25 (fun H locs ρ_5 eρ_5 hW => ?_)
  have h := nm_to eρ_5 h
  refine lv_aload_n S.1 S.2.1 dX3_clear_28 rfl (lv_at hl 0 rfl) ?_
  refine lv_bipush (v := 20) S.1 S.2.1 dX3_clear_29 (by decide) ?_
  refine pRo_seekMinutes S hK hW dX3_clear_31 (fun H locs ρ_6 eρ_6 hW => ?_)
  have h := nm_to eρ_6 h
  refine lv_aload_n S.1 S.2.1 dX3_clear_34 rfl (lv_at hl 0 rfl) ?_
  refine lv_iconst (v := 0) S.1 S.2.1 dX3_clear_35 (by decide) ?_
  refine pRo_laterMinutes S hK hW dX3_clear_36 (fun H locs ρ_7 eρ_7 hW => ?_)
  have h := nm_to eρ_7 h
  obtain rfl := pr1 h
  exact hQ _ _ _ _ dX3_clear_39 hW
set_option maxHeartbeats 4000000 in
set_option maxRecDepth 100000 in
theorem cRo_addSeat (l : Launch) (D : va_G) (cs : Nat → ClassId) (a : Nat → Nat) (ρ : St) (p0 : Int32) (N : Nat) {r : Int32} {ρ' : St} (h : fRo_addSeat N p0 ρ = some (r, ρ')) : Ki l D cs none yX3_addSeat cX3_addSeat 2 (some .boolean) 0 0 (wRo cs a ρ) [.ref (a 0), .int p0] r (wRo cs a ρ') := by
  refine Ki_of (by decide +kernel) (Nat.le_of_ble_eq_true rfl) (fun p e s m below meth c A S hK hA hZ Q hQ ls hl hW => ?_)
  have hl : lv_has ls 2 [(0, .ref (a 0)), (1, .int p0)] := hl
  unfold fRo_addSeat at h
  refine lv_aload_n S.1 S.2.1 dX3_addSeat_0 rfl (lv_at hl 0 rfl) ?_
  refine gRo_seats S hK hW dX3_addSeat_1 ?_
  refine lv_aload_n S.1 S.2.1 dX3_addSeat_4 rfl (lv_at hl 0 rfl) ?_
  refine gRo_kinds S hK hW dX3_addSeat_5 ?_
  refine nRo_kinds S hK hW dX3_addSeat_8 ?_
  refine lv_icmp_lt (tgt := 14) S.1 S.2.1 dX3_addSeat_9 (by decide) (fun c_1 => ?_) (fun c_1 => ?_)
  · have h := ite_t c_1 h
    refine lv_aload_n S.1 S.2.1 dX3_addSeat_14 rfl (lv_at hl 0 rfl) ?_
    refine gRo_kinds S hK hW dX3_addSeat_15 ?_
    refine lv_aload_n S.1 S.2.1 dX3_addSeat_18 rfl (lv_at hl 0 rfl) ?_
    refine gRo_seats S hK hW dX3_addSeat_19 ?_
    refine lv_iload_n S.1 S.2.1 dX3_addSeat_22 rfl (lv_at hl 1 rfl) ?_
    obtain ⟨hi_2, h⟩ := gI_some h
    refine sRo_kinds S hK hW hi_2 dX3_addSeat_23 (fun H locs ρ_3 eρ_3 hW => ?_)
    have h := nm_to eρ_3 h
    refine lv_aload_n S.1 S.2.1 dX3_addSeat_24 rfl (lv_at hl 0 rfl) ?_
    refine lv_dup S.1 S.2.1 dX3_addSeat_25 rfl ?_
    refine gRo_seats S hK hW dX3_addSeat_26 ?_
    refine lv_iconst (v := 1) S.1 S.2.1 dX3_addSeat_29 (by decide) ?_
    refine lv_iadd S.1 S.2.1 dX3_addSeat_30 ?_
    refine pRo_seats S hK hW dX3_addSeat_31 (fun H locs ρ_4 eρ_4 hW => ?_)
    have h := nm_to eρ_4 h
    refine lv_iconst (v := 1) S.1 S.2.1 dX3_addSeat_34 (by decide) ?_
    obtain ⟨rfl, rfl⟩ := pr2 h
    exact hQ _ _ _ _ dX3_addSeat_35 rfl hW
  · have h := ite_f c_1 h
    refine lv_iconst (v := 0) S.1 S.2.1 dX3_addSeat_12 (by decide) ?_
    obtain ⟨rfl, rfl⟩ := pr2 h
    exact hQ _ _ _ _ dX3_addSeat_13 rfl hW
set_option maxHeartbeats 4000000 in
set_option maxRecDepth 100000 in
theorem cRo_setCards (l : Launch) (D : va_G) (cs : Nat → ClassId) (a : Nat → Nat) (ρ : St) (p0 : Int32) (p1 : Int32) (N : Nat) {r : Int32} {ρ' : St} (h : fRo_setCards N p0 p1 ρ = some (r, ρ')) : Ki l D cs none yX3_setCards cX3_setCards 3 (some .boolean) 0 0 (wRo cs a ρ) [.ref (a 0), .int p0, .int p1] r (wRo cs a ρ') := by
  refine Ki_of (by decide +kernel) (Nat.le_of_ble_eq_true rfl) (fun p e s m below meth c A S hK hA hZ Q hQ ls hl hW => ?_)
  have hl : lv_has ls 3 [(0, .ref (a 0)), (1, .int p0), (2, .int p1)] := hl
  unfold fRo_setCards at h
  refine lv_aload_n S.1 S.2.1 dX3_setCards_0 rfl (lv_at hl 0 rfl) ?_
  refine lv_iload_n S.1 S.2.1 dX3_setCards_1 rfl (lv_at hl 1 rfl) ?_
  refine pRo_cardMinutes S hK hW dX3_setCards_2 (fun H locs ρ_1 eρ_1 hW => ?_)
  have h := nm_to eρ_1 h
  refine lv_aload_n S.1 S.2.1 dX3_setCards_5 rfl (lv_at hl 0 rfl) ?_
  refine lv_iload_n S.1 S.2.1 dX3_setCards_6 rfl (lv_at hl 2 rfl) ?_
  refine pRo_porterMinutes S hK hW dX3_setCards_7 (fun H locs ρ_2 eρ_2 hW => ?_)
  have h := nm_to eρ_2 h
  refine lv_iconst (v := 1) S.1 S.2.1 dX3_setCards_10 (by decide) ?_
  obtain ⟨rfl, rfl⟩ := pr2 h
  exact hQ _ _ _ _ dX3_setCards_11 rfl hW
set_option maxHeartbeats 4000000 in
set_option maxRecDepth 100000 in
theorem cRo_setLamps (l : Launch) (D : va_G) (cs : Nat → ClassId) (a : Nat → Nat) (ρ : St) (p0 : Int32) (N : Nat) {r : Int32} {ρ' : St} (h : fRo_setLamps N p0 ρ = some (r, ρ')) : Ki l D cs none yX3_setLamps cX3_setLamps 2 (some .boolean) 0 0 (wRo cs a ρ) [.ref (a 0), .int p0] r (wRo cs a ρ') := by
  refine Ki_of (by decide +kernel) (Nat.le_of_ble_eq_true rfl) (fun p e s m below meth c A S hK hA hZ Q hQ ls hl hW => ?_)
  have hl : lv_has ls 2 [(0, .ref (a 0)), (1, .int p0)] := hl
  unfold fRo_setLamps at h
  refine lv_aload_n S.1 S.2.1 dX3_setLamps_0 rfl (lv_at hl 0 rfl) ?_
  refine lv_iload_n S.1 S.2.1 dX3_setLamps_1 rfl (lv_at hl 1 rfl) ?_
  refine pRo_lampMinutes S hK hW dX3_setLamps_2 (fun H locs ρ_1 eρ_1 hW => ?_)
  have h := nm_to eρ_1 h
  refine lv_iconst (v := 1) S.1 S.2.1 dX3_setLamps_5 (by decide) ?_
  obtain ⟨rfl, rfl⟩ := pr2 h
  exact hQ _ _ _ _ dX3_setLamps_6 rfl hW
set_option maxHeartbeats 4000000 in
set_option maxRecDepth 100000 in
theorem cRo_setSeeking (l : Launch) (D : va_G) (cs : Nat → ClassId) (a : Nat → Nat) (ρ : St) (p0 : Int32) (N : Nat) {r : Int32} {ρ' : St} (h : fRo_setSeeking N p0 ρ = some (r, ρ')) : Ki l D cs none yX3_setSeeking cX3_setSeeking 2 (some .boolean) 0 0 (wRo cs a ρ) [.ref (a 0), .int p0] r (wRo cs a ρ') := by
  refine Ki_of (by decide +kernel) (Nat.le_of_ble_eq_true rfl) (fun p e s m below meth c A S hK hA hZ Q hQ ls hl hW => ?_)
  have hl : lv_has ls 2 [(0, .ref (a 0)), (1, .int p0)] := hl
  unfold fRo_setSeeking at h
  refine lv_aload_n S.1 S.2.1 dX3_setSeeking_0 rfl (lv_at hl 0 rfl) ?_
  refine lv_iload_n S.1 S.2.1 dX3_setSeeking_1 rfl (lv_at hl 1 rfl) ?_
  refine pRo_seekMinutes S hK hW dX3_setSeeking_2 (fun H locs ρ_1 eρ_1 hW => ?_)
  have h := nm_to eρ_1 h
  refine lv_iconst (v := 1) S.1 S.2.1 dX3_setSeeking_5 (by decide) ?_
  obtain ⟨rfl, rfl⟩ := pr2 h
  exact hQ _ _ _ _ dX3_setSeeking_6 rfl hW
set_option maxHeartbeats 4000000 in
set_option maxRecDepth 100000 in
theorem cRo_setLater (l : Launch) (D : va_G) (cs : Nat → ClassId) (a : Nat → Nat) (ρ : St) (p0 : Int32) (N : Nat) {r : Int32} {ρ' : St} (h : fRo_setLater N p0 ρ = some (r, ρ')) : Ki l D cs none yX3_setLater cX3_setLater 2 (some .boolean) 0 0 (wRo cs a ρ) [.ref (a 0), .int p0] r (wRo cs a ρ') := by
  refine Ki_of (by decide +kernel) (Nat.le_of_ble_eq_true rfl) (fun p e s m below meth c A S hK hA hZ Q hQ ls hl hW => ?_)
  have hl : lv_has ls 2 [(0, .ref (a 0)), (1, .int p0)] := hl
  unfold fRo_setLater at h
  refine lv_aload_n S.1 S.2.1 dX3_setLater_0 rfl (lv_at hl 0 rfl) ?_
  refine lv_iload_n S.1 S.2.1 dX3_setLater_1 rfl (lv_at hl 1 rfl) ?_
  refine pRo_laterMinutes S hK hW dX3_setLater_2 (fun H locs ρ_1 eρ_1 hW => ?_)
  have h := nm_to eρ_1 h
  refine lv_iconst (v := 1) S.1 S.2.1 dX3_setLater_5 (by decide) ?_
  obtain ⟨rfl, rfl⟩ := pr2 h
  exact hQ _ _ _ _ dX3_setLater_6 rfl hW
set_option maxHeartbeats 4000000 in
set_option maxRecDepth 100000 in
theorem cRo_seatCount (l : Launch) (D : va_G) (cs : Nat → ClassId) (a : Nat → Nat) (ρ : St) (N : Nat) {r : Int32} (h : fRo_seatCount N ρ = some r) : Ki l D cs none yX3_seatCount cX3_seatCount 1 (some .int) 0 0 (wRo cs a ρ) [.ref (a 0)] r (wRo cs a ρ) := by
  refine Ki_of (by decide +kernel) (Nat.le_of_ble_eq_true rfl) (fun p e s m below meth c A S hK hA hZ Q hQ ls hl hW => ?_)
  have hl : lv_has ls 1 [(0, .ref (a 0))] := hl
  unfold fRo_seatCount at h
  refine lv_aload_n S.1 S.2.1 dX3_seatCount_0 rfl (lv_at hl 0 rfl) ?_
  refine gRo_seats S hK hW dX3_seatCount_1 ?_
  obtain rfl := pr1 h
  exact hQ _ _ _ _ dX3_seatCount_4 rfl hW
set_option maxHeartbeats 4000000 in
set_option maxRecDepth 100000 in
theorem cRo_readerCount (l : Launch) (D : va_G) (cs : Nat → ClassId) (a : Nat → Nat) (ρ : St) (N : Nat) {r : Int32} (h : fRo_readerCount N ρ = some r) : Ki l D cs none yX3_readerCount cX3_readerCount 1 (some .int) 0 0 (wRo cs a ρ) [.ref (a 0)] r (wRo cs a ρ) := by
  refine Ki_of (by decide +kernel) (Nat.le_of_ble_eq_true rfl) (fun p e s m below meth c A S hK hA hZ Q hQ ls hl hW => ?_)
  have hl : lv_has ls 1 [(0, .ref (a 0))] := hl
  unfold fRo_readerCount at h
  refine lv_aload_n S.1 S.2.1 dX3_readerCount_0 rfl (lv_at hl 0 rfl) ?_
  refine gRo_readers S hK hW dX3_readerCount_1 ?_
  obtain rfl := pr1 h
  exact hQ _ _ _ _ dX3_readerCount_4 rfl hW
set_option maxHeartbeats 4000000 in
set_option maxRecDepth 100000 in
theorem cRo_cardMinutes (l : Launch) (D : va_G) (cs : Nat → ClassId) (a : Nat → Nat) (ρ : St) (N : Nat) {r : Int32} (h : fRo_cardMinutes N ρ = some r) : Ki l D cs none yX3_cardMinutes cX3_cardMinutes 1 (some .int) 0 0 (wRo cs a ρ) [.ref (a 0)] r (wRo cs a ρ) := by
  refine Ki_of (by decide +kernel) (Nat.le_of_ble_eq_true rfl) (fun p e s m below meth c A S hK hA hZ Q hQ ls hl hW => ?_)
  have hl : lv_has ls 1 [(0, .ref (a 0))] := hl
  unfold fRo_cardMinutes at h
  refine lv_aload_n S.1 S.2.1 dX3_cardMinutes_0 rfl (lv_at hl 0 rfl) ?_
  refine gRo_cardMinutes S hK hW dX3_cardMinutes_1 ?_
  obtain rfl := pr1 h
  exact hQ _ _ _ _ dX3_cardMinutes_4 rfl hW
set_option maxHeartbeats 4000000 in
set_option maxRecDepth 100000 in
theorem cRo_porterMinutes (l : Launch) (D : va_G) (cs : Nat → ClassId) (a : Nat → Nat) (ρ : St) (N : Nat) {r : Int32} (h : fRo_porterMinutes N ρ = some r) : Ki l D cs none yX3_porterMinutes cX3_porterMinutes 1 (some .int) 0 0 (wRo cs a ρ) [.ref (a 0)] r (wRo cs a ρ) := by
  refine Ki_of (by decide +kernel) (Nat.le_of_ble_eq_true rfl) (fun p e s m below meth c A S hK hA hZ Q hQ ls hl hW => ?_)
  have hl : lv_has ls 1 [(0, .ref (a 0))] := hl
  unfold fRo_porterMinutes at h
  refine lv_aload_n S.1 S.2.1 dX3_porterMinutes_0 rfl (lv_at hl 0 rfl) ?_
  refine gRo_porterMinutes S hK hW dX3_porterMinutes_1 ?_
  obtain rfl := pr1 h
  exact hQ _ _ _ _ dX3_porterMinutes_4 rfl hW
set_option maxHeartbeats 4000000 in
set_option maxRecDepth 100000 in
theorem cRo_lampMinutes (l : Launch) (D : va_G) (cs : Nat → ClassId) (a : Nat → Nat) (ρ : St) (N : Nat) {r : Int32} (h : fRo_lampMinutes N ρ = some r) : Ki l D cs none yX3_lampMinutes cX3_lampMinutes 1 (some .int) 0 0 (wRo cs a ρ) [.ref (a 0)] r (wRo cs a ρ) := by
  refine Ki_of (by decide +kernel) (Nat.le_of_ble_eq_true rfl) (fun p e s m below meth c A S hK hA hZ Q hQ ls hl hW => ?_)
  have hl : lv_has ls 1 [(0, .ref (a 0))] := hl
  unfold fRo_lampMinutes at h
  refine lv_aload_n S.1 S.2.1 dX3_lampMinutes_0 rfl (lv_at hl 0 rfl) ?_
  refine gRo_lampMinutes S hK hW dX3_lampMinutes_1 ?_
  obtain rfl := pr1 h
  exact hQ _ _ _ _ dX3_lampMinutes_4 rfl hW
set_option maxHeartbeats 4000000 in
set_option maxRecDepth 100000 in
theorem cRo_seekMinutes (l : Launch) (D : va_G) (cs : Nat → ClassId) (a : Nat → Nat) (ρ : St) (N : Nat) {r : Int32} (h : fRo_seekMinutes N ρ = some r) : Ki l D cs none yX3_seekMinutes cX3_seekMinutes 1 (some .int) 0 0 (wRo cs a ρ) [.ref (a 0)] r (wRo cs a ρ) := by
  refine Ki_of (by decide +kernel) (Nat.le_of_ble_eq_true rfl) (fun p e s m below meth c A S hK hA hZ Q hQ ls hl hW => ?_)
  have hl : lv_has ls 1 [(0, .ref (a 0))] := hl
  unfold fRo_seekMinutes at h
  refine lv_aload_n S.1 S.2.1 dX3_seekMinutes_0 rfl (lv_at hl 0 rfl) ?_
  refine gRo_seekMinutes S hK hW dX3_seekMinutes_1 ?_
  obtain rfl := pr1 h
  exact hQ _ _ _ _ dX3_seekMinutes_4 rfl hW
set_option maxHeartbeats 4000000 in
set_option maxRecDepth 100000 in
theorem cRo_laterMinutes (l : Launch) (D : va_G) (cs : Nat → ClassId) (a : Nat → Nat) (ρ : St) (N : Nat) {r : Int32} (h : fRo_laterMinutes N ρ = some r) : Ki l D cs none yX3_laterMinutes cX3_laterMinutes 1 (some .int) 0 0 (wRo cs a ρ) [.ref (a 0)] r (wRo cs a ρ) := by
  refine Ki_of (by decide +kernel) (Nat.le_of_ble_eq_true rfl) (fun p e s m below meth c A S hK hA hZ Q hQ ls hl hW => ?_)
  have hl : lv_has ls 1 [(0, .ref (a 0))] := hl
  unfold fRo_laterMinutes at h
  refine lv_aload_n S.1 S.2.1 dX3_laterMinutes_0 rfl (lv_at hl 0 rfl) ?_
  refine gRo_laterMinutes S hK hW dX3_laterMinutes_1 ?_
  obtain rfl := pr1 h
  exact hQ _ _ _ _ dX3_laterMinutes_4 rfl hW
set_option maxHeartbeats 4000000 in
set_option maxRecDepth 100000 in
theorem cRo_everybody (l : Launch) (D : va_G) (cs : Nat → ClassId) (a : Nat → Nat) (ρ : St) (N : Nat) {r : Int32} (h : fRo_everybody N ρ = some r) : Ki l D cs none yX3_everybody cX3_everybody 1 (some .int) 0 0 (wRo cs a ρ) [.ref (a 0)] r (wRo cs a ρ) := by
  refine Ki_of (by decide +kernel) (Nat.le_of_ble_eq_true rfl) (fun p e s m below meth c A S hK hA hZ Q hQ ls hl hW => ?_)
  have hl : lv_has ls 1 [(0, .ref (a 0))] := hl
  unfold fRo_everybody at h
  refine lv_iconst (v := 1) S.1 S.2.1 dX3_everybody_0 (by decide) ?_
  refine lv_aload_n S.1 S.2.1 dX3_everybody_1 rfl (lv_at hl 0 rfl) ?_
  refine gRo_readers S hK hW dX3_everybody_2 ?_
  refine lv_ishl S.1 S.2.1 dX3_everybody_5 ?_
  refine lv_iconst (v := 1) S.1 S.2.1 dX3_everybody_6 (by decide) ?_
  refine lv_isub S.1 S.2.1 dX3_everybody_7 ?_
  obtain rfl := pr1 h
  exact hQ _ _ _ _ dX3_everybody_8 rfl hW
set_option maxHeartbeats 4000000 in
set_option maxRecDepth 100000 in
theorem wRo_kindOf_22 {p : Program} {l : Launch} {e : Env} {s : State} {m : MethodId} {args : Array Value} {below : List Frame} {meth : Method} {c : Code} {A : Nat → Prop} {Q : State → Prop} {D : va_G} {cs : Nat → ClassId} {a : Nat → Nat} {ρ : St} {r : Int32} {N : Nat} (S : Fx p m c cX3_kindOf 2 s args RX3) (hK : va_K D vwCl (tyL cs) s) (hA : ∀ x, s.heap.size ≤ x → A x) (hQ : ∀ (H : Heap) (locs : List Loc) (pc : Nat) (ls : Array Slot), decode cX3_kindOf pc = .ok (.ireturn, 1) → narrow .int (.int r) = .int r → Wd D A s.heap (wRo cs a ρ) H locs → W p l e { frames := 0, cells := 0, slots := 0, locals := 0 } s m args below meth c H locs 0 0 Q (F0 m pc ls [.int r])) : ∀ (k0 : Int32) (H : Heap) (locs : List Loc) (ls : Array Slot), fRo_kindOf_22 N ρ k0 = some r → Wd D A s.heap (wRo cs a ρ) H locs → lv_has ls 2 [] → W p l e { frames := 0, cells := 0, slots := 0, locals := 0 } s m args below meth c H locs 0 0 Q (F0 m 22 ls [.int k0]) := by
  intro k0 H locs ls h hW hl
  unfold fRo_kindOf_22 at h
  obtain rfl := pr1 h
  exact hQ _ _ _ _ dX3_kindOf_22 rfl hW
set_option maxHeartbeats 4000000 in
set_option maxRecDepth 100000 in
theorem wRo_kindOf_21 {p : Program} {l : Launch} {e : Env} {s : State} {m : MethodId} {args : Array Value} {below : List Frame} {meth : Method} {c : Code} {A : Nat → Prop} {Q : State → Prop} {D : va_G} {cs : Nat → ClassId} {a : Nat → Nat} {ρ : St} {r : Int32} {N : Nat} (S : Fx p m c cX3_kindOf 2 s args RX3) (hK : va_K D vwCl (tyL cs) s) (hA : ∀ x, s.heap.size ≤ x → A x) (hQ : ∀ (H : Heap) (locs : List Loc) (pc : Nat) (ls : Array Slot), decode cX3_kindOf pc = .ok (.ireturn, 1) → narrow .int (.int r) = .int r → Wd D A s.heap (wRo cs a ρ) H locs → W p l e { frames := 0, cells := 0, slots := 0, locals := 0 } s m args below meth c H locs 0 0 Q (F0 m pc ls [.int r])) : ∀ (H : Heap) (locs : List Loc) (ls : Array Slot), fRo_kindOf_21 N ρ = some r → Wd D A s.heap (wRo cs a ρ) H locs → lv_has ls 2 [] → W p l e { frames := 0, cells := 0, slots := 0, locals := 0 } s m args below meth c H locs 0 0 Q (F0 m 21 ls []) := by
  intro  H locs ls h hW hl
  unfold fRo_kindOf_21 at h
  refine lv_iconst (v := 0) S.1 S.2.1 dX3_kindOf_21 (by decide) ?_
  exact wRo_kindOf_22 S hK hA hQ (0 : Int32) _ _ _ h hW (lv_sub hl [] rfl)
set_option maxHeartbeats 4000000 in
set_option maxRecDepth 100000 in
theorem cRo_kindOf (l : Launch) (D : va_G) (cs : Nat → ClassId) (a : Nat → Nat) (ρ : St) (p0 : Int32) (N : Nat) {r : Int32} (h : fRo_kindOf N p0 ρ = some r) : Ki l D cs none yX3_kindOf cX3_kindOf 2 (some .int) 0 0 (wRo cs a ρ) [.ref (a 0), .int p0] r (wRo cs a ρ) := by
  refine Ki_of (by decide +kernel) (Nat.le_of_ble_eq_true rfl) (fun p e s m below meth c A S hK hA hZ Q hQ ls hl hW => ?_)
  have hl : lv_has ls 2 [(0, .ref (a 0)), (1, .int p0)] := hl
  unfold fRo_kindOf at h
  refine lv_iload_n S.1 S.2.1 dX3_kindOf_0 rfl (lv_at hl 1 rfl) ?_
  refine lv_if_lt (tgt := 21) S.1 S.2.1 dX3_kindOf_1 (by decide) (fun c_1 => ?_) (fun c_1 => ?_)
  · have h := ite_t c_1 h
    exact wRo_kindOf_21 S hK hA hQ _ _ _ h hW (lv_sub hl [] rfl)
  · have h := ite_f c_1 h
    refine lv_iload_n S.1 S.2.1 dX3_kindOf_4 rfl (lv_at hl 1 rfl) ?_
    refine lv_aload_n S.1 S.2.1 dX3_kindOf_5 rfl (lv_at hl 0 rfl) ?_
    refine gRo_seats S hK hW dX3_kindOf_6 ?_
    refine lv_icmp_ge (tgt := 21) S.1 S.2.1 dX3_kindOf_9 (by decide) (fun c_2 => ?_) (fun c_2 => ?_)
    · have h := ite_t c_2 h
      exact wRo_kindOf_21 S hK hA hQ _ _ _ h hW (lv_sub hl [] rfl)
    · have h := ite_f c_2 h
      refine lv_aload_n S.1 S.2.1 dX3_kindOf_12 rfl (lv_at hl 0 rfl) ?_
      refine gRo_kinds S hK hW dX3_kindOf_13 ?_
      refine lv_iload_n S.1 S.2.1 dX3_kindOf_16 rfl (lv_at hl 1 rfl) ?_
      obtain ⟨hi_3, h⟩ := gI_some h
      refine lRo_kinds S hK hW hi_3 dX3_kindOf_17 ?_
      refine lv_goto (tgt := 22) S.1 S.2.1 dX3_kindOf_18 (by decide) ?_
      exact wRo_kindOf_22 S hK hA hQ (ρ 1 p0.toNatClampNeg) _ _ _ h hW (lv_sub hl [] rfl)
set_option maxHeartbeats 4000000 in
set_option maxRecDepth 100000 in
theorem wRo_number_47 {p : Program} {l : Launch} {e : Env} {s : State} {m : MethodId} {args : Array Value} {below : List Frame} {meth : Method} {c : Code} {A : Nat → Prop} {Q : State → Prop} {D : va_G} {cs : Nat → ClassId} {a : Nat → Nat} {ρ : St} {r : Int32} {N : Nat} (S : Fx p m c cX3_number 4 s args RX3) (hK : va_K D vwCl (tyL cs) s) (hA : ∀ x, s.heap.size ≤ x → A x) (hQ : ∀ (H : Heap) (locs : List Loc) (pc : Nat) (ls : Array Slot), decode cX3_number pc = .ok (.ireturn, 1) → narrow .int (.int r) = .int r → Wd D A s.heap (wRo cs a ρ) H locs → W p l e { frames := 0, cells := 0, slots := 0, locals := 0 } s m args below meth c H locs 0 0 Q (F0 m pc ls [.int r])) : ∀ (k0 : Int32) (H : Heap) (locs : List Loc) (ls : Array Slot), fRo_number_47 N ρ k0 = some r → Wd D A s.heap (wRo cs a ρ) H locs → lv_has ls 4 [] → W p l e { frames := 0, cells := 0, slots := 0, locals := 0 } s m args below meth c H locs 0 0 Q (F0 m 47 ls [.int k0]) := by
  intro k0 H locs ls h hW hl
  unfold fRo_number_47 at h
  obtain rfl := pr1 h
  exact hQ _ _ _ _ dX3_number_47 rfl hW
set_option maxHeartbeats 4000000 in
set_option maxRecDepth 100000 in
theorem wRo_number_27 {p : Program} {l : Launch} {e : Env} {s : State} {m : MethodId} {args : Array Value} {below : List Frame} {meth : Method} {c : Code} {A : Nat → Prop} {Q : State → Prop} {D : va_G} {cs : Nat → ClassId} {a : Nat → Nat} {ρ : St} {r : Int32} {N : Nat} (S : Fx p m c cX3_number 4 s args RX3) (hK : va_K D vwCl (tyL cs) s) (hA : ∀ x, s.heap.size ≤ x → A x) (hQ : ∀ (H : Heap) (locs : List Loc) (pc : Nat) (ls : Array Slot), decode cX3_number pc = .ok (.ireturn, 1) → narrow .int (.int r) = .int r → Wd D A s.heap (wRo cs a ρ) H locs → W p l e { frames := 0, cells := 0, slots := 0, locals := 0 } s m args below meth c H locs 0 0 Q (F0 m pc ls [.int r])) : ∀ (v1 : Int32) (v2 : Int32) (k0 : Int32) (H : Heap) (locs : List Loc) (ls : Array Slot), fRo_number_27 N ρ v1 v2 k0 = some r → Wd D A s.heap (wRo cs a ρ) H locs → lv_has ls 4 [(0, .ref (a 0)), (1, .int v1), (2, .int v2)] → W p l e { frames := 0, cells := 0, slots := 0, locals := 0 } s m args below meth c H locs 0 0 Q (F0 m 27 ls [.int k0]) := by
  intro v1 v2 k0 H locs ls h hW hl
  unfold fRo_number_27 at h
  refine lv_istore_n (lv' := [(3, .int k0), (0, .ref (a 0)), (1, .int v1), (2, .int v2)]) S.1 S.2.1 dX3_number_27 rfl hl (by decide) rfl (fun ls hl => ?_)
  refine lv_iload_n S.1 S.2.1 dX3_number_28 rfl (lv_at hl 0 rfl) ?_
  refine lv_if_eq (tgt := 46) S.1 S.2.1 dX3_number_29 (by decide) (fun c_1 => ?_) (fun c_1 => ?_)
  · have h := ite_t c_1 h
    refine lv_iconst (v := 0) S.1 S.2.1 dX3_number_46 (by decide) ?_
    exact wRo_number_47 S hK hA hQ (0 : Int32) _ _ _ h hW (lv_sub hl [] rfl)
  · have h := ite_f c_1 h
    refine lv_aload_n S.1 S.2.1 dX3_number_32 rfl (lv_at hl 1 rfl) ?_
    refine gRo_numbers S hK hW dX3_number_33 ?_
    refine lv_iload_n S.1 S.2.1 dX3_number_36 rfl (lv_at hl 2 rfl) ?_
    refine lv_bipush (v := 7) S.1 S.2.1 dX3_number_37 (by decide) ?_
    refine lv_imul S.1 S.2.1 dX3_number_39 ?_
    refine lv_iload_n S.1 S.2.1 dX3_number_40 rfl (lv_at hl 3 rfl) ?_
    refine lv_iadd S.1 S.2.1 dX3_number_41 ?_
    obtain ⟨hi_2, h⟩ := gI_some h
    refine lRo_numbers S hK hW hi_2 dX3_number_42 ?_
    refine lv_goto (tgt := 47) S.1 S.2.1 dX3_number_43 (by decide) ?_
    exact wRo_number_47 S hK hA hQ (ρ 2 ((v1 * (7 : Int32)) + v2).toNatClampNeg) _ _ _ h hW (lv_sub hl [] rfl)
set_option maxHeartbeats 4000000 in
set_option maxRecDepth 100000 in
theorem wRo_number_26 {p : Program} {l : Launch} {e : Env} {s : State} {m : MethodId} {args : Array Value} {below : List Frame} {meth : Method} {c : Code} {A : Nat → Prop} {Q : State → Prop} {D : va_G} {cs : Nat → ClassId} {a : Nat → Nat} {ρ : St} {r : Int32} {N : Nat} (S : Fx p m c cX3_number 4 s args RX3) (hK : va_K D vwCl (tyL cs) s) (hA : ∀ x, s.heap.size ≤ x → A x) (hQ : ∀ (H : Heap) (locs : List Loc) (pc : Nat) (ls : Array Slot), decode cX3_number pc = .ok (.ireturn, 1) → narrow .int (.int r) = .int r → Wd D A s.heap (wRo cs a ρ) H locs → W p l e { frames := 0, cells := 0, slots := 0, locals := 0 } s m args below meth c H locs 0 0 Q (F0 m pc ls [.int r])) : ∀ (v1 : Int32) (v2 : Int32) (H : Heap) (locs : List Loc) (ls : Array Slot), fRo_number_26 N ρ v1 v2 = some r → Wd D A s.heap (wRo cs a ρ) H locs → lv_has ls 4 [(0, .ref (a 0)), (1, .int v1), (2, .int v2)] → W p l e { frames := 0, cells := 0, slots := 0, locals := 0 } s m args below meth c H locs 0 0 Q (F0 m 26 ls []) := by
  intro v1 v2 H locs ls h hW hl
  unfold fRo_number_26 at h
  refine lv_iconst (v := 0) S.1 S.2.1 dX3_number_26 (by decide) ?_
  exact wRo_number_27 S hK hA hQ v1 v2 (0 : Int32) _ _ _ h hW (lv_sub hl [0, 1, 2] rfl)
set_option maxHeartbeats 4000000 in
set_option maxRecDepth 100000 in
theorem cRo_number (l : Launch) (D : va_G) (cs : Nat → ClassId) (a : Nat → Nat) (ρ : St) (p0 : Int32) (p1 : Int32) (N : Nat) {r : Int32} (h : fRo_number N p0 p1 ρ = some r) : Ki l D cs none yX3_number cX3_number 4 (some .int) 0 0 (wRo cs a ρ) [.ref (a 0), .int p0, .int p1] r (wRo cs a ρ) := by
  refine Ki_of (by decide +kernel) (Nat.le_of_ble_eq_true rfl) (fun p e s m below meth c A S hK hA hZ Q hQ ls hl hW => ?_)
  have hl : lv_has ls 4 [(0, .ref (a 0)), (1, .int p0), (2, .int p1)] := hl
  unfold fRo_number at h
  refine lv_iload_n S.1 S.2.1 dX3_number_0 rfl (lv_at hl 1 rfl) ?_
  refine lv_if_lt (tgt := 26) S.1 S.2.1 dX3_number_1 (by decide) (fun c_3 => ?_) (fun c_3 => ?_)
  · have h := ite_t c_3 h
    exact wRo_number_26 S hK hA hQ p0 p1 _ _ _ h hW (lv_sub hl [0, 1, 2] rfl)
  · have h := ite_f c_3 h
    refine lv_iload_n S.1 S.2.1 dX3_number_4 rfl (lv_at hl 1 rfl) ?_
    refine lv_aload_n S.1 S.2.1 dX3_number_5 rfl (lv_at hl 0 rfl) ?_
    refine gRo_readers S hK hW dX3_number_6 ?_
    refine lv_icmp_ge (tgt := 26) S.1 S.2.1 dX3_number_9 (by decide) (fun c_4 => ?_) (fun c_4 => ?_)
    · have h := ite_t c_4 h
      exact wRo_number_26 S hK hA hQ p0 p1 _ _ _ h hW (lv_sub hl [0, 1, 2] rfl)
    · have h := ite_f c_4 h
      refine lv_iload_n S.1 S.2.1 dX3_number_12 rfl (lv_at hl 2 rfl) ?_
      refine lv_if_lt (tgt := 26) S.1 S.2.1 dX3_number_13 (by decide) (fun c_5 => ?_) (fun c_5 => ?_)
      · have h := ite_t c_5 h
        exact wRo_number_26 S hK hA hQ p0 p1 _ _ _ h hW (lv_sub hl [0, 1, 2] rfl)
      · have h := ite_f c_5 h
        refine lv_iload_n S.1 S.2.1 dX3_number_16 rfl (lv_at hl 2 rfl) ?_
        refine lv_bipush (v := 7) S.1 S.2.1 dX3_number_17 (by decide) ?_
        refine lv_icmp_ge (tgt := 26) S.1 S.2.1 dX3_number_19 (by decide) (fun c_6 => ?_) (fun c_6 => ?_)
        · have h := ite_t c_6 h
          exact wRo_number_26 S hK hA hQ p0 p1 _ _ _ h hW (lv_sub hl [0, 1, 2] rfl)
        · have h := ite_f c_6 h
          refine lv_iconst (v := 1) S.1 S.2.1 dX3_number_22 (by decide) ?_
          refine lv_goto (tgt := 27) S.1 S.2.1 dX3_number_23 (by decide) ?_
          exact wRo_number_27 S hK hA hQ p0 p1 (1 : Int32) _ _ _ h hW (lv_sub hl [0, 1, 2] rfl)
set_option maxHeartbeats 4000000 in
set_option maxRecDepth 100000 in
theorem wRo_goesOff_20 {p : Program} {l : Launch} {e : Env} {s : State} {m : MethodId} {args : Array Value} {below : List Frame} {meth : Method} {c : Code} {A : Nat → Prop} {Q : State → Prop} {D : va_G} {cs : Nat → ClassId} {a : Nat → Nat} {ρ : St} {r : Int32} {N : Nat} (S : Fx p m c cX3_goesOff 2 s args RX3) (hK : va_K D vwCl (tyL cs) s) (hA : ∀ x, s.heap.size ≤ x → A x) (hQ : ∀ (H : Heap) (locs : List Loc) (pc : Nat) (ls : Array Slot), decode cX3_goesOff pc = .ok (.ireturn, 1) → narrow .boolean (.int r) = .int r → Wd D A s.heap (wRo cs a ρ) H locs → W p l e { frames := 1, cells := 0, slots := 0, locals := 23 } s m args below meth c H locs 0 0 Q (F0 m pc ls [.int r])) : ∀ (k0 : Int32) (H : Heap) (locs : List Loc) (ls : Array Slot), fRo_goesOff_20 N ρ k0 = some r → Wd D A s.heap (wRo cs a ρ) H locs → lv_has ls 2 [] → W p l e { frames := 1, cells := 0, slots := 0, locals := 23 } s m args below meth c H locs 0 0 Q (F0 m 20 ls [.int k0]) := by
  intro k0 H locs ls h hW hl
  unfold fRo_goesOff_20 at h
  obtain ⟨hb_1, h⟩ := gB_some h
  obtain rfl := pr1 h
  exact hQ _ _ _ _ dX3_goesOff_20 hb_1 hW
set_option maxHeartbeats 4000000 in
set_option maxRecDepth 100000 in
theorem cRo_goesOff (l : Launch) (D : va_G) (cs : Nat → ClassId) (a : Nat → Nat) (ρ : St) (p0 : Int32) (N : Nat) {r : Int32} (h : fRo_goesOff N p0 ρ = some r) : Ki l D cs none yX3_goesOff cX3_goesOff 2 (some .boolean) 1 23 (wRo cs a ρ) [.ref (a 0), .int p0] r (wRo cs a ρ) := by
  refine Ki_of (by decide +kernel) (Nat.le_of_ble_eq_true rfl) (fun p e s m below meth c A S hK hA hZ Q hQ ls hl hW => ?_)
  have hl : lv_has ls 2 [(0, .ref (a 0)), (1, .int p0)] := hl
  unfold fRo_goesOff at h
  refine lv_aload_n S.1 S.2.1 dX3_goesOff_0 rfl (lv_at hl 0 rfl) ?_
  refine lv_iload_n S.1 S.2.1 dX3_goesOff_1 rfl (lv_at hl 1 rfl) ?_
  refine lv_iconst (v := 2) S.1 S.2.1 dX3_goesOff_2 (by decide) ?_
  obtain ⟨r_2, hc_3, h⟩ := cl1_some h
  have hW := kw_same hW
  refine kV_i (As := [.int p0, .int (2 : Int32)]) (rest := []) S hK hA (z := none) trivial [] [] hW (cRo_number l D cs a ρ p0 (2 : Int32) N hc_3) (ci := 2) rfl rfl lk_X3_49 q374 q375 ⟨Nat.le_of_ble_eq_true rfl, Nat.le_of_ble_eq_true rfl⟩ rfl (Nat.le_of_ble_eq_true rfl) hl.1 dX3_goesOff_3 ⟨Nat.zero_le _, Nat.zero_le _⟩ (fun H locs hW => ?_)
  have hW : Wd D A s.heap (wRo cs a ρ) H locs := kw_back hW
  refine lv_aload_n S.1 S.2.1 dX3_goesOff_6 rfl (lv_at hl 0 rfl) ?_
  refine lv_iload_n S.1 S.2.1 dX3_goesOff_7 rfl (lv_at hl 1 rfl) ?_
  refine lv_iconst (v := 1) S.1 S.2.1 dX3_goesOff_8 (by decide) ?_
  obtain ⟨r_4, hc_5, h⟩ := cl1_some h
  have hW := kw_same hW
  refine kV_i (As := [.int p0, .int (1 : Int32)]) (rest := [.int r_2]) S hK hA (z := none) trivial [] [] hW (cRo_number l D cs a ρ p0 (1 : Int32) N hc_5) (ci := 2) rfl rfl lk_X3_49 q374 q375 ⟨Nat.le_of_ble_eq_true rfl, Nat.le_of_ble_eq_true rfl⟩ rfl (Nat.le_of_ble_eq_true rfl) hl.1 dX3_goesOff_9 ⟨Nat.zero_le _, Nat.zero_le _⟩ (fun H locs hW => ?_)
  have hW : Wd D A s.heap (wRo cs a ρ) H locs := kw_back hW
  refine lv_icmp_ge (tgt := 19) S.1 S.2.1 dX3_goesOff_12 (by decide) (fun c_6 => ?_) (fun c_6 => ?_)
  · have h := ite_t c_6 h
    refine lv_iconst (v := 0) S.1 S.2.1 dX3_goesOff_19 (by decide) ?_
    exact wRo_goesOff_20 S hK hA hQ (0 : Int32) _ _ _ h hW (lv_sub hl [] rfl)
  · have h := ite_f c_6 h
    refine lv_iconst (v := 1) S.1 S.2.1 dX3_goesOff_15 (by decide) ?_
    refine lv_goto (tgt := 20) S.1 S.2.1 dX3_goesOff_16 (by decide) ?_
    exact wRo_goesOff_20 S hK hA hQ (1 : Int32) _ _ _ h hW (lv_sub hl [] rfl)
