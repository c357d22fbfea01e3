/-! one item, both sides in step -/
theorem nI_n4 {k : Nat} (h : k < 2 ^ 31) : ¬ nI k = (-4 : Int32) := by
  intro e
  have h2 := congrArg Int32.toInt e
  rw [nI_toInt h, show (-4 : Int32).toInt = -4 by decide] at h2
  omega
theorem fa_ps_ge (c : Nat → Nat) (a : Nat) : ∀ p, a ≤ fa_ps c a p
  | 0 => Nat.le_refl _
  | p + 1 => by
    have := fa_ps_ge c a p
    rw [fa_ps_s]
    omega
theorem rd_in {c : Nat → Nat} {len : Nat} {τ σ : St} (h : TX c len τ σ) (N : Nat) {a : Nat} (ha : a < len) {ς : St} (ρ : St) (h2 : ς 0 2 = nI a) {r x : Int32} (er : fTe_byteAt N (nI a) τ = some r) (ex : fSc_itemOf N r = some x) (n : Nat) {v : Nat} (hv : v < 400) : fSc_readInto_11 N τ (n + 1) (nI v) ς ρ = if x = (-4 : Int32) then some (nI a, sA ς 0 (upd (ς 0) 2 (nI (a + 1))), ρ) else cl2 (fSc_readNumbers N x τ (sA ς 0 (upd (ς 0) 2 (nI (a + 1))))) fun r_12 ς_13 => if r_12 = 0 then some (nI a, ς_13, ρ) else cl2 (fSc_put N x ς_13 ρ) fun r_16 ρ_17 => if r_16 = 0 then some (nI a, ς_13, ρ_17) else fSc_readInto_11 N τ n (nI (v + 1)) ς_13 ρ_17 := by
  have hl := h.1
  rw [fSc_readInto_11, if_neg (show ¬ (400 : Int32) ≤ nI v from nI_ge (b := 400) hv (by omega)), fTe_length, cl1_s, h.2.1, h2, if_neg (nI_ge ha (by omega)), nm_d, er, cl1_s, ex, cl1_s, nm_d, nI_1, nI_1]
  rfl
theorem fm_in {c : Nat → Nat} {len : Nat} {τ σ : St} (h : TX c len τ σ) (N : Nat) {a : Nat} (ha : a < len) (h2 : σ 0 2 = nI a) (n : Nat) : fMo_fault_9 N (n + 1) σ = cl2 (fMo_isItem N σ) fun r_3 σ_4 => if r_3 = 0 then some (nI a, σ_4) else fMo_fault_9 N n σ_4 := by
  have hl := h.1
  rw [fMo_fault_9, h.2.2.1, h2, if_neg (nI_ge ha (by omega)), nm_d]
theorem im_in {σ : St} (N : Nat) {a q : Nat} (ha : a < 400) (hq : q ≤ 7) (h2 : σ 0 2 = nI a) (ep : fMo_parts N (σ 2 a) = some (nI q)) : fMo_isItem N σ = fMo_isItem_38 N N (σ 2 a) (nI q) (if q = 0 then 0 else 1) (nI 0) (sA σ 0 (upd (σ 0) 2 (nI (a + 1)))) := by
  unfold fMo_isItem
  rw [h2, gI_ok ha (by decide), nm_d, cl_nI (by omega), nm_d, nI_1, ep, cl1_s]
  by_cases hq0 : q = 0
  · rw [if_pos (show nI q ≤ (0 : Int32) from nI_le (b := 0) (by omega) (by omega)), if_pos hq0]
    rfl
  · rw [if_neg (show ¬ nI q ≤ (0 : Int32) from nI_ge (a := 0) (by omega) (by omega)), if_neg hq0]
    rfl
theorem rn_in {τ : St} (N : Nat) {I f q : Nat} (hI : I < 6) (z1 : zFirst I = nI f) (z2 : zFirst (I + 1) = nI (f + q)) (ς : St) : fSc_readNumbers N (nI I) τ ς = fSc_readNumbers_35 N τ N (nI f) (nI q) (nI 0) ς := by
  unfold fSc_readNumbers
  rw [if_neg (nI_pos (by omega)), nI_1, if_pos (show nI (I + 1) < Int32.ofNat 7 from nI_lt (b := 7) (by omega) (by omega)), gI_ok (show I < 7 by omega) (by decide), nm_d, gI_ok (show I + 1 < 7 by omega) (by decide), nm_d, cl_nI (show I < 2 ^ 31 by omega), cl_nI (show I + 1 < 2 ^ 31 by omega), z1, z2, pk_sub (by omega), Nat.add_sub_cancel_left]
  rfl
def fa_ST (N : Nat) (τ : St) (len a : Nat) (ς ρ σ : St) : Prop := ∃ ς' ρ' σ', FR σ σ' ∧ ((∃ rm' b, rmN rm' ∧ RoomC rm' ρ' ∧ RoomM rm' 1 σ' ∧ ς' 0 2 = nI b ∧ σ' 0 2 = nI b ∧ a < b ∧ b ≤ len ∧ (∀ n v, v < 400 → fSc_readInto_11 N τ (n + 1) (nI v) ς ρ = fSc_readInto_11 N τ n (nI (v + 1)) ς' ρ') ∧ ∀ n, fMo_fault_9 N (n + 1) σ = fMo_fault_9 N n σ') ∨ ((∀ n v, v < 400 → fSc_readInto_11 N τ (n + 1) (nI v) ς ρ = some (nI a, ς', ρ')) ∧ ∀ n, fMo_fault_9 N (n + 1) σ = some (nI a, σ')))
theorem item_gen {c : Nat → Nat} {len : Nat} {τ σ : St} (h : TX c len τ σ) {N : Nat} (hNN : 1000 ≤ N) {a s I f q : Nat} (ha : a < len) (hs : s < 128) (hc : c a = s) (hI : I < 6) (hq : q ≤ 7) (hq1 : 1 ≤ q) (hf : f + q ≤ 13) (z1 : zFirst I = nI f) (z2 : zFirst (I + 1) = nI (f + q)) (pI : fSc_itemOf N (nI s) = some (nI I)) (pq : fMo_parts N (nI s) = some (nI q))
    {rm : Nat → Nat → Nat} {ς ρ : St} (hM : RoomM rm 1 σ) (h2 : ς 0 2 = nI a) (h3 : σ 0 2 = nI a)
    (good : ∀ σ', RoomM rm 1 σ' → (∀ w, w < q → σ' 30 w = nI (fa_vs c (a + 1) w)) → GM N rm (fa_vs c (a + 1)) I (nI s) σ')
    (put : ∀ ς', (∀ w, w < q → fa_Ran (fa_vs c (a + 1)) f w) → (∀ w, w < q → ς' 2 w = nI (fa_vs c (a + 1) w)) → fa_PT N rm (fa_vs c (a + 1)) I ς' ρ)
    (no : (∃ w, w < q ∧ ¬ fa_Ran (fa_vs c (a + 1)) f w) → nxt rm (fa_vs c (a + 1)) I = none) : fa_ST N τ len a ς ρ σ := by
  have hl : len ≤ 400 := h.1
  have er : fTe_byteAt N (nI a) τ = some (nI s) := by
    obtain ⟨r, er, hr⟩ := tx_sep h N (show a < 1000 by omega)
    rw [er, (hr s (by omega)).mpr hc]
  have ey : σ 2 a = nI s := by
    rcases (h.2.2.2.1 a ha).2.2 with ⟨_, z⟩ | ⟨z, _⟩
    · rw [z, hc]
    · omega
  have eC : ∀ n v, v < 400 → fSc_readInto_11 N τ (n + 1) (nI v) ς ρ = cl2 (fSc_readNumbers_35 N τ N (nI f) (nI q) (nI 0) (sA ς 0 (upd (ς 0) 2 (nI (a + 1))))) fun r_12 ς_13 => if r_12 = 0 then some (nI a, ς_13, ρ) else cl2 (fSc_put N (nI I) ς_13 ρ) fun r_16 ρ_17 => if r_16 = 0 then some (nI a, ς_13, ρ_17) else fSc_readInto_11 N τ n (nI (v + 1)) ς_13 ρ_17 := fun n v hv => by
    rw [rd_in h N ha ρ h2 er pI n hv, if_neg (nI_n4 (by omega)), rn_in N hI z1 z2]
  have eM : ∀ n, fMo_fault_9 N (n + 1) σ = cl2 (fMo_isItem_38 N N (nI s) (nI q) (1 : Int32) (nI 0) (sA σ 0 (upd (σ 0) 2 (nI (a + 1))))) fun r_3 σ_4 => if r_3 = 0 then some (nI a, σ_4) else fMo_fault_9 N n σ_4 := fun n => by
    rw [fm_in h N ha h3 n, im_in N (by omega) hq h3 (by rw [ey]; exact pq), if_neg (show ¬ q = 0 by omega), ey]
  obtain ⟨ς', alt⟩ := nu_go h hNN (a := a + 1) hq hf q 0 N (sA ς 0 (upd (ς 0) 2 (nI (a + 1)))) (by omega) (by omega) (show a + 1 ≤ 400 by omega) (by rw [sA_s, upd_s]; rfl) (fun w hw => absurd hw (by omega))
  have f1 := FN.set σ (a + 1)
  obtain ⟨σ2, f2, alt2⟩ := it_go (c := c) (len := len) (τ := τ) hNN (nI s) (a := a + 1) hq (q - 1) 0 N (sA σ 0 (upd (σ 0) 2 (nI (a + 1)))) (by omega) (by omega) (f1.tx h) (show a + 1 ≤ 400 by omega) (Or.inl ⟨rfl, f1.1⟩) (fun w hw => absurd hw (by omega))
  have fr2 : FR σ σ2 := FR.tr f1.fp.fr f2.fr
  have hM2 : RoomM rm 1 σ2 := f2.room (f1.fp.room hM)
  have bad : ∀ (ς' ρ' σ' : St), FR σ σ' → (∀ n v, v < 400 → fSc_readInto_11 N τ (n + 1) (nI v) ς ρ = some (nI a, ς', ρ')) → (∀ n, fMo_fault_9 N (n + 1) σ = some (nI a, σ')) → fa_ST N τ len a ς ρ σ := fun ς' ρ' σ' b1 b2 b3 => ⟨ς', ρ', σ', b1, Or.inr ⟨b2, b3⟩⟩
  rcases alt2 with ⟨k1, k2, k3⟩ | ⟨k1, k3⟩
  · obtain ⟨σ3, fr3, e0, gm⟩ := good σ2 hM2 (fun w hw => (k1 w hw).2)
    rcases alt with ⟨g1, g2, g3⟩ | ⟨⟨w, hw, g1⟩, g3⟩
    · obtain ⟨ρ', pt⟩ := put ς' (fun w hw => (g1 w hw).1.2) (fun w hw => (g1 w hw).2)
      rcases gm with ⟨rm', n1, y1, y2⟩ | ⟨n1, y1⟩
      · rcases pt with ⟨rm2, n2, p1, p2, p3⟩ | ⟨n2, p1⟩
        · have em : rm2 = rm' := Option.some.inj (n2.symm.trans n1)
          subst em
          refine ⟨ς', ρ', σ3, FR.tr fr2 fr3, Or.inl ⟨rm2, fa_ps c (a + 1) q, p3, p2, y2, g2, by rw [e0]; exact k2, ?_, ?_, fun n v hv => ?_, fun n => ?_⟩⟩
          · have := fa_ps_ge c (a + 1) q
            omega
          · obtain ⟨q', rfl⟩ : ∃ q', q = q' + 1 := ⟨q - 1, by omega⟩
            have hb : fa_ps c (a + 1) q' + fl c (fa_ps c (a + 1) q') < len := tx_in h (by rw [(k1 q' (by omega)).1.2]; split <;> omega)
            rw [fa_ps_s]
            omega
          · rw [eC n v hv, g3, cl2_s, if_neg one0, p1, cl2_s, if_neg one0]
          · rw [eM n, k3, y1, cl2_s, if_neg one0, fMo_isItem_206, gB_1, cl2_s, if_neg one0]
        · rw [n1] at n2
          cases n2
      · rcases pt with ⟨rm2, n2, p1, p2, p3⟩ | ⟨n2, p1⟩
        · rw [n1] at n2
          cases n2
        · refine bad ς' ρ' σ3 (FR.tr fr2 fr3) (fun n v hv => ?_) (fun n => ?_)
          · rw [eC n v hv, g3, cl2_s, if_neg one0, p1, cl2_s, if_pos rfl]
          · rw [eM n, k3, y1, cl2_s, if_pos rfl, fMo_isItem_205, fMo_isItem_206, gB_0, cl2_s, if_pos rfl]
    · have n0 := no ⟨w, hw, fun z => g1 ⟨(k1 w hw).1, z⟩⟩
      rcases gm with ⟨rm', n1, y1, y2⟩ | ⟨n1, y1⟩
      · rw [n1] at n0
        cases n0
      · refine bad ς' ρ σ3 (FR.tr fr2 fr3) (fun n v hv => ?_) (fun n => ?_)
        · rw [eC n v hv, g3, cl2_s, if_pos rfl]
        · rw [eM n, k3, y1, cl2_s, if_pos rfl, fMo_isItem_205, fMo_isItem_206, gB_0, cl2_s, if_pos rfl]
  · rcases alt with ⟨g1, g2, g3⟩ | ⟨g1, g3⟩
    · obtain ⟨w, hw, k1⟩ := k1
      exact absurd (g1 w hw).1.1 k1
    · refine bad ς' ρ σ2 fr2 (fun n v hv => ?_) (fun n => ?_)
      · rw [eC n v hv, g3, cl2_s, if_pos rfl]
      · rw [eM n, k3, cl2_s, if_pos rfl]
/-- no letter of an item -/
theorem item_no {c : Nat → Nat} {len : Nat} {τ σ : St} (h : TX c len τ σ) {N : Nat} (hNN : 1000 ≤ N) {a : Nat} (ha : a < len) (hc : ∀ s, s = 99 ∨ s = 108 ∨ s = 114 ∨ s = 115 ∨ s = 118 ∨ s = 119 → ¬ c a = s) {ς ρ : St} (h2 : ς 0 2 = nI a) (h3 : σ 0 2 = nI a) : fa_ST N τ len a ς ρ σ := by
  have hl : len ≤ 400 := h.1
  obtain ⟨r, er, hr⟩ := tx_sep h N (show a < 1000 by omega)
  have rn : ∀ s, s = 99 ∨ s = 108 ∨ s = 114 ∨ s = 115 ∨ s = 118 ∨ s = 119 → ¬ r = nI s := fun s hs z => hc s hs ((hr s (by omega)).mp z)
  have yn : ∀ s, s = 99 ∨ s = 108 ∨ s = 114 ∨ s = 115 ∨ s = 118 ∨ s = 119 → ¬ σ 2 a = nI s := fun s hs z => by
    rcases (h.2.2.2.1 a ha).2.2 with ⟨y1, y2⟩ | ⟨y1, y2⟩
    · exact hc s hs (nI_inj (by omega) (by omega) (y2.symm.trans z))
    · rw [z] at y2
      exact nI_pos (by omega) y2
  have ex : fSc_itemOf N r = some (-4 : Int32) := by
    unfold fSc_itemOf
    rw [if_neg (show ¬ r = (99 : Int32) from rn 99 (by omega)), if_neg (show ¬ r = (108 : Int32) from rn 108 (by omega)), if_neg (show ¬ r = (114 : Int32) from rn 114 (by omega)), if_neg (show ¬ r = (115 : Int32) from rn 115 (by omega)), if_neg (show ¬ r = (118 : Int32) from rn 118 (by omega)), if_neg (show ¬ r = (119 : Int32) from rn 119 (by omega))]
  have ep : fMo_parts N (σ 2 a) = some (nI 0) := by
    unfold fMo_parts
    rw [if_neg (show ¬ σ 2 a = (114 : Int32) from yn 114 (by omega)), if_neg (show ¬ σ 2 a = (99 : Int32) from yn 99 (by omega)), if_neg (show ¬ σ 2 a = (115 : Int32) from yn 115 (by omega)), if_neg (show ¬ σ 2 a = (108 : Int32) from yn 108 (by omega)), if_neg (show ¬ σ 2 a = (119 : Int32) from yn 119 (by omega)), if_neg (show ¬ σ 2 a = (118 : Int32) from yn 118 (by omega))]
    rfl
  obtain ⟨n, hn⟩ : ∃ n, N = n + 1 := ⟨N - 1, by omega⟩
  have f1 := FN.set σ (a + 1)
  obtain ⟨σ', f, e⟩ := it_stop N n (σ 2 a) (nI 0) 0 f1.1
  rw [← hn] at e
  refine ⟨sA ς 0 (upd (ς 0) 2 (nI (a + 1))), ρ, σ', FR.tr f1.fp.fr f.fr, Or.inr ⟨fun n v hv => ?_, fun n => ?_⟩⟩
  · exact (rd_in h N ha ρ h2 er ex n hv).trans (if_pos rfl)
  · rw [fm_in h N ha h3 n, im_in N (by omega) (by omega) h3 ep, if_pos rfl, e, cl2_s, if_pos rfl]
theorem item_any {c : Nat → Nat} {len : Nat} {τ σ : St} (h : TX c len τ σ) {N : Nat} (hNN : 1000 ≤ N) {a : Nat} (ha : a < len) {rm : Nat → Nat → Nat} (hN : rmN rm) {ς ρ : St} (hC : RoomC rm ρ) (hM : RoomM rm 1 σ) (h2 : ς 0 2 = nI a) (h3 : σ 0 2 = nI a) : fa_ST N τ len a ς ρ σ := by
  have lt := fun w => fa_vs_lt c (a + 1) w
  by_cases c1 : c a = 115
  · exact item_gen h hNN (s := 115) (I := 0) (f := 0) (q := 1) ha (by omega) c1 (by omega) (by omega) (by omega) (by omega) rfl rfl rfl rfl hM h2 h3 (fun σ' m e => good_s hN m (lt 0) (e 0 (by omega))) (fun ς' r e => put_s hN hC r e) no_s
  by_cases c2 : c a = 114
  · exact item_gen h hNN (s := 114) (I := 1) (f := 1) (q := 7) ha (by omega) c2 (by omega) (by omega) (by omega) (by omega) rfl rfl rfl rfl hM h2 h3 (fun σ' m e => good_r hNN hN m (fun w _ => lt w) e) (fun ς' r e => put_r hN hC r e) no_r
  by_cases c3 : c a = 99
  · exact item_gen h hNN (s := 99) (I := 2) (f := 8) (q := 2) ha (by omega) c3 (by omega) (by omega) (by omega) (by omega) rfl rfl rfl rfl hM h2 h3 (fun σ' m e => good_c m (lt 0) (lt 1) (e 0 (by omega)) (e 1 (by omega))) (fun ς' r e => put_c hN hC r e) no_c
  by_cases c4 : c a = 108
  · exact item_gen h hNN (s := 108) (I := 3) (f := 10) (q := 1) ha (by omega) c4 (by omega) (by omega) (by omega) (by omega) rfl rfl rfl rfl hM h2 h3 (fun σ' m e => good_l m (lt 0) (e 0 (by omega))) (fun ς' r e => put_l hN hC r e) no_l
  by_cases c5 : c a = 119
  · exact item_gen h hNN (s := 119) (I := 4) (f := 11) (q := 1) ha (by omega) c5 (by omega) (by omega) (by omega) (by omega) rfl rfl rfl rfl hM h2 h3 (fun σ' m e => good_w m (lt 0) (e 0 (by omega))) (fun ς' r e => put_w hN hC r e) no_w
  by_cases c6 : c a = 118
  · exact item_gen h hNN (s := 118) (I := 5) (f := 12) (q := 1) ha (by omega) c6 (by omega) (by omega) (by omega) (by omega) rfl rfl rfl rfl hM h2 h3 (fun σ' m e => good_v m (lt 0) (e 0 (by omega))) (fun ς' r e => put_v hN hC r e) no_v
  refine item_no h hNN ha (fun s hs z => ?_) h2 h3
  rcases hs with e | e | e | e | e | e <;> subst e <;> omega
