theorem kw {D : va_G} {A : Nat → Prop} {H0 H : Heap} {locs : List Loc} {w w' : va_W} (h : w = w') (hW : Wd D A H0 w H locs) : Wd D A H0 w' H locs := h ▸ hW
theorem kw_same {D : va_G} {A : Nat → Prop} {H0 H : Heap} {locs : List Loc} {w : va_W} (hW : Wd D A H0 w H locs) : Wd D A H0 ([] ++ (w ++ [])) H locs := kw (by simp only [List.append_nil, List.nil_append]) hW
theorem kw_back {D : va_G} {A : Nat → Prop} {H0 H : Heap} {locs : List Loc} {w : va_W} (hW : Wd D A H0 ([] ++ (w ++ [])) H locs) : Wd D A H0 w H locs := kw (by simp only [List.append_nil, List.nil_append]) hW
def fillI (f : Nat → Int32) (n : Nat) (v : Int32) : Nat → Int32 := fun j => if j < n then v else f j
def fillL (f : Nat → Int64) (n : Nat) (v : Int64) : Nat → Int64 := fun j => if j < n then v else f j
theorem fillI_0 (f : Nat → Int32) (v : Int32) : fillI f 0 v = f := by funext j; simp [fillI]
theorem fillL_0 (f : Nat → Int64) (v : Int64) : fillL f 0 v = f := by funext j; simp [fillL]
theorem fillI_succ (f : Nat → Int32) (i : Nat) (v : Int32) : upd (fillI f i v) i v = fillI f (i + 1) v := by
  funext j
  simp only [upd, fillI]
  by_cases h : j = i
  · subst h; simp
  · by_cases h2 : j < i
    · simp [h, h2, Nat.lt_succ_of_lt h2]
    · have h3 : ¬ j < i + 1 := by omega
      simp [h, h2, h3]
theorem fillL_succ (f : Nat → Int64) (i : Nat) (v : Int64) : vp_updL (fillL f i v) i v = fillL f (i + 1) v := by
  funext j
  simp only [vp_updL, fillL]
  by_cases h : j = i
  · subst h; simp
  · by_cases h2 : j < i
    · simp [h, h2, Nat.lt_succ_of_lt h2]
    · have h3 : ¬ j < i + 1 := by omega
      simp [h, h2, h3]
set_option maxHeartbeats 4000000 in
theorem w_fillI {p : Program} {l : Launch} {e : Env} {s : State} {m : MethodId} {args : Array Value} {below : List Frame} {meth : Method} {c : Code} {A : Nat → Prop} {Q : State → Prop} {D : va_G} {cs : Nat → ClassId} {q n : Nat} {f : Nat → Int32} {v : Int32} (hn : n ≤ 100000) (S : Fx p m c cJ7_fill_53178 4 s args RJ7) (hK : va_K D vwCl (tyL cs) s)
    (hQ : ∀ (H : Heap) (locs : List Loc) (pc : Nat) (ls : Array Slot), decode cJ7_fill_53178 pc = .ok (.return_, 1) → Wd D A s.heap [(q, .inl (cs 0, n, .inl (fillI f n v)))] H locs → W p l e { frames := 0, cells := 0, slots := 0, locals := 0 } s m args below meth c H locs 0 0 Q (F0 m pc ls [])) :
    ∀ (k i : Nat) (H : Heap) (locs : List Loc) (ls : Array Slot), n - i = k → i ≤ n → Wd D A s.heap [(q, .inl (cs 0, n, .inl (fillI f i v)))] H locs → lv_has ls 4 [(0, .ref q), (1, .int v), (2, .int (nI i)), (3, .int (nI n))] → W p l e { frames := 0, cells := 0, slots := 0, locals := 0 } s m args below meth c H locs 0 0 Q (F0 m 5 ls []) := by
  intro k
  induction k with
  | zero =>
    intro i H locs ls hk hi hW hl
    have hin : i = n := by omega
    subst hin
    refine lv_iload_n S.1 S.2.1 dJ7_fill_53178_5 rfl (lv_at hl 2 rfl) ?_
    refine lv_iload_n S.1 S.2.1 dJ7_fill_53178_6 rfl (lv_at hl 3 rfl) ?_
    refine lv_icmp_ge (tgt := 20) S.1 S.2.1 dJ7_fill_53178_7 (by decide) (fun c1 => ?_) (fun c1 => ?_)
    · exact hQ _ _ _ _ dJ7_fill_53178_20 hW
    · exact absurd (nI_le (Nat.le_refl i) (by omega)) c1
  | succ k ih =>
    intro i H locs ls hk hi hW hl
    refine lv_iload_n S.1 S.2.1 dJ7_fill_53178_5 rfl (lv_at hl 2 rfl) ?_
    refine lv_iload_n S.1 S.2.1 dJ7_fill_53178_6 rfl (lv_at hl 3 rfl) ?_
    refine lv_icmp_ge (tgt := 20) S.1 S.2.1 dJ7_fill_53178_7 (by decide) (fun c1 => ?_) (fun c1 => ?_)
    · exact absurd c1 (nI_ge (by omega) (by omega))
    · refine lv_aload_n S.1 S.2.1 dJ7_fill_53178_10 rfl (lv_at hl 0 rfl) ?_
      refine lv_iload_n S.1 S.2.1 dJ7_fill_53178_11 rfl (lv_at hl 2 rfl) ?_
      refine lv_iload_n S.1 S.2.1 dJ7_fill_53178_12 rfl (lv_at hl 1 rfl) ?_
      refine va_iast S.1 S.2.1 hK hW.1 hW.2.1 hW.2.2 0 0 rfl rfl (vp_in_nI (by omega) (by omega)) dJ7_fill_53178_13 (fun H locs hP hD hS => ?_)
      rw [nI_clamp (by omega), fillI_succ] at hP hD
      refine lv_iinc (v := nI (i + 1)) (lv' := [(2, .int (nI (i + 1))), (0, .ref q), (1, .int v), (3, .int (nI n))]) S.1 S.2.1 dJ7_fill_53178_14 hl (k := 2) rfl (nI_1 i) (by decide) rfl (fun ls hl => ?_)
      refine lv_goto (tgt := 5) S.1 S.2.1 dJ7_fill_53178_17 (by decide) ?_
      exact ih (i + 1) _ _ _ (by omega) (by omega) ⟨hP, hD, hS⟩ (lv_sub hl [1, 2, 0, 3] rfl)
theorem c_fillI (l : Launch) (D : va_G) (cs : Nat → ClassId) (q n : Nat) (f : Nat → Int32) (v : Int32) (hn : n ≤ 100000) : Kv l D cs none yJ7_fill_53178 cJ7_fill_53178 4 none 0 0 [(q, .inl (cs 0, n, .inl f))] [.ref q, .int v] [(q, .inl (cs 0, n, .inl (fillI f n v)))] := by
  refine Kv_of (by decide +kernel) (Nat.le_of_ble_eq_true rfl) (fun p e s m below meth c A S hK hA hZ Q hQ ls hl hW => ?_)
  have hl : lv_has ls 4 [(0, .ref q), (1, .int v)] := hl
  refine lv_iconst (v := 0) S.1 S.2.1 dJ7_fill_53178_0 (by decide) ?_
  refine lv_istore_n (lv' := [(2, .int (0 : Int32)), (0, .ref q), (1, .int v)]) S.1 S.2.1 dJ7_fill_53178_1 rfl hl (by decide) rfl (fun ls hl => ?_)
  refine lv_aload_n S.1 S.2.1 dJ7_fill_53178_2 rfl (lv_at hl 1 rfl) ?_
  refine va_alen S.1 S.2.1 hK hW.1 0 0 rfl rfl rfl dJ7_fill_53178_3 ?_
  refine lv_istore_n (lv' := [(3, .int (nI n)), (2, .int (0 : Int32)), (0, .ref q), (1, .int v)]) S.1 S.2.1 dJ7_fill_53178_4 rfl hl (by decide) rfl (fun ls hl => ?_)
  exact w_fillI hn S hK hQ n 0 _ _ _ (by omega) (by omega) (by rw [fillI_0]; exact hW) (lv_sub hl [2, 3, 1, 0] rfl)
set_option maxHeartbeats 4000000 in
theorem w_fillL {p : Program} {l : Launch} {e : Env} {s : State} {m : MethodId} {args : Array Value} {below : List Frame} {meth : Method} {c : Code} {A : Nat → Prop} {Q : State → Prop} {D : va_G} {cs : Nat → ClassId} {q n : Nat} {f : Nat → Int64} {v : Int64} (hn : n ≤ 100000) (S : Fx p m c cJ7_fill_d0a16 5 s args RJ7) (hK : va_K D vwCl (tyL cs) s)
    (hQ : ∀ (H : Heap) (locs : List Loc) (pc : Nat) (ls : Array Slot), decode cJ7_fill_d0a16 pc = .ok (.return_, 1) → Wd D A s.heap [(q, .inl (cs 3, n, .inr (.inl (fillL f n v))))] H locs → W p l e { frames := 0, cells := 0, slots := 0, locals := 0 } s m args below meth c H locs 0 0 Q (F0 m pc ls [])) :
    ∀ (k i : Nat) (H : Heap) (locs : List Loc) (ls : Array Slot), n - i = k → i ≤ n → Wd D A s.heap [(q, .inl (cs 3, n, .inr (.inl (fillL f i v))))] H locs → lv_has ls 5 [(0, .ref q), (1, .long v), (3, .int (nI i)), (4, .int (nI n))] → W p l e { frames := 0, cells := 0, slots := 0, locals := 0 } s m args below meth c H locs 0 0 Q (F0 m 6 ls []) := by
  intro k
  induction k with
  | zero =>
    intro i H locs ls hk hi hW hl
    have hin : i = n := by omega
    subst hin
    refine lv_iload_n S.1 S.2.1 dJ7_fill_d0a16_6 rfl (lv_at hl 2 rfl) ?_
    refine lv_iload S.1 S.2.1 dJ7_fill_d0a16_7 (lv_at hl 3 rfl) ?_
    refine lv_icmp_ge (tgt := 22) S.1 S.2.1 dJ7_fill_d0a16_9 (by decide) (fun c1 => ?_) (fun c1 => ?_)
    · exact hQ _ _ _ _ dJ7_fill_d0a16_22 hW
    · exact absurd (nI_le (Nat.le_refl i) (by omega)) c1
  | succ k ih =>
    intro i H locs ls hk hi hW hl
    refine lv_iload_n S.1 S.2.1 dJ7_fill_d0a16_6 rfl (lv_at hl 2 rfl) ?_
    refine lv_iload S.1 S.2.1 dJ7_fill_d0a16_7 (lv_at hl 3 rfl) ?_
    refine lv_icmp_ge (tgt := 22) S.1 S.2.1 dJ7_fill_d0a16_9 (by decide) (fun c1 => ?_) (fun c1 => ?_)
    · exact absurd c1 (nI_ge (by omega) (by omega))
    · refine lv_aload_n S.1 S.2.1 dJ7_fill_d0a16_12 rfl (lv_at hl 0 rfl) ?_
      refine lv_iload_n S.1 S.2.1 dJ7_fill_d0a16_13 rfl (lv_at hl 2 rfl) ?_
      refine lv_lload_n S.1 S.2.1 dJ7_fill_d0a16_14 rfl (lv_at hl 1 rfl) ?_
      refine va_last S.1 S.2.1 hK hW.1 hW.2.1 hW.2.2 0 3 rfl rfl (vp_in_nI (by omega) (by omega)) dJ7_fill_d0a16_15 (fun H locs hP hD hS => ?_)
      rw [nI_clamp (by omega), fillL_succ] at hP hD
      refine lv_iinc (v := nI (i + 1)) (lv' := [(3, .int (nI (i + 1))), (0, .ref q), (1, .long v), (4, .int (nI n))]) S.1 S.2.1 dJ7_fill_d0a16_16 hl (k := 2) rfl (nI_1 i) (by decide) rfl (fun ls hl => ?_)
      refine lv_goto (tgt := 6) S.1 S.2.1 dJ7_fill_d0a16_19 (by decide) ?_
      exact ih (i + 1) _ _ _ (by omega) (by omega) ⟨hP, hD, hS⟩ (lv_sub hl [1, 2, 0, 3] rfl)
theorem c_fillL (l : Launch) (D : va_G) (cs : Nat → ClassId) (q n : Nat) (f : Nat → Int64) (v : Int64) (hn : n ≤ 100000) : Kv l D cs none yJ7_fill_d0a16 cJ7_fill_d0a16 5 none 0 0 [(q, .inl (cs 3, n, .inr (.inl f)))] [.ref q, .long v] [(q, .inl (cs 3, n, .inr (.inl (fillL f n v))))] := by
  refine Kv_of (by decide +kernel) (Nat.le_of_ble_eq_true rfl) (fun p e s m below meth c A S hK hA hZ Q hQ ls hl hW => ?_)
  have hl : lv_has ls 5 [(0, .ref q), (1, .long v)] := hl
  refine lv_iconst (v := 0) S.1 S.2.1 dJ7_fill_d0a16_0 (by decide) ?_
  refine lv_istore_n (lv' := [(3, .int (0 : Int32)), (0, .ref q), (1, .long v)]) S.1 S.2.1 dJ7_fill_d0a16_1 rfl hl (by decide) rfl (fun ls hl => ?_)
  refine lv_aload_n S.1 S.2.1 dJ7_fill_d0a16_2 rfl (lv_at hl 1 rfl) ?_
  refine va_alen S.1 S.2.1 hK hW.1 0 3 rfl rfl rfl dJ7_fill_d0a16_3 ?_
  refine lv_istore (lv' := [(4, .int (nI n)), (3, .int (0 : Int32)), (0, .ref q), (1, .long v)]) S.1 S.2.1 dJ7_fill_d0a16_4 hl (by decide) rfl (fun ls hl => ?_)
  exact w_fillL hn S hK hQ n 0 _ _ _ (by omega) (by omega) (by rw [fillL_0]; exact hW) (lv_sub hl [2, 3, 1, 0] rfl)
theorem pr5 {α β γ δ ε : Type} {a c : α} {b d : β} {e f : γ} {g i : δ} {j k : ε} (h : some (a, b, e, g, j) = some (c, d, f, i, k)) : a = c ∧ b = d ∧ e = f ∧ g = i ∧ j = k := by cases h; exact ⟨rfl, rfl, rfl, rfl, rfl⟩
def cl5 {α β δ ε ζ γ : Type} (o : Option (α × β × δ × ε × ζ)) (k : α → β → δ → ε → ζ → Option γ) : Option γ := match o with
  | none => none
  | some (a, b, d, e, z) => k a b d e z
theorem cl5_some {α β δ ε ζ γ : Type} {o : Option (α × β × δ × ε × ζ)} {k : α → β → δ → ε → ζ → Option γ} {r : γ} (h : cl5 o k = some r) : ∃ a b d e z, o = some (a, b, d, e, z) ∧ k a b d e z = some r := by
  cases o with
  | none => cases h
  | some a => obtain ⟨a, b, d, e, z⟩ := a; exact ⟨a, b, d, e, z, rfl, h⟩
