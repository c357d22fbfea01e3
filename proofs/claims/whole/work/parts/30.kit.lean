/-! the pure side: small rows -/
theorem cl1_s {α γ : Type} (a : α) (k : α → Option γ) : cl1 (some a) k = k a := rfl
theorem cl2_s {α β γ : Type} (a : α) (b : β) (k : α → β → Option γ) : cl2 (some (a, b)) k = k a b := rfl
theorem cl3_s {α β δ γ : Type} (a : α) (b : β) (d : δ) (k : α → β → δ → Option γ) : cl3 (some (a, b, d)) k = k a b d := rfl
theorem cl4_s {α β δ ε γ : Type} (a : α) (b : β) (d : δ) (e : ε) (k : α → β → δ → ε → Option γ) : cl4 (some (a, b, d, e)) k = k a b d e := rfl
theorem cl5_s {α β δ ε ζ γ : Type} (a : α) (b : β) (d : δ) (e : ε) (z : ζ) (k : α → β → δ → ε → ζ → Option γ) : cl5 (some (a, b, d, e, z)) k = k a b d e z := rfl
theorem nm_d {α β : Type} (e : α) (k : α → β) : nm e k = k e := rfl
theorem inb_nI {k n : Nat} (h : k < n) (hn : n < 2 ^ 31) : inb (nI k) n = true := by
  simp only [inb, Bool.and_eq_true, Bool.not_eq_true', decide_eq_false_iff_not, decide_eq_true_eq]
  exact ⟨nI_pos (by omega), by rw [nI_clamp (by omega)]; exact h⟩
theorem gI_ok {α : Type} {k n : Nat} (h : k < n) (hn : n < 2 ^ 31) (x : Option α) : gI (nI k) n x = x := by
  unfold gI
  rw [inb_nI h hn]
theorem gB_0 {α : Type} (x : Option α) : gB (0 : Int32) x = x := if_pos (by decide)
theorem gB_1 {α : Type} (x : Option α) : gB (1 : Int32) x = x := if_pos (by decide)
theorem gZ_ok {α : Type} {y : Int32} (h : ¬ y = 0) (x : Option α) : gZ y x = x := if_neg h
theorem gZL_ok {α : Type} {y : Int64} (h : ¬ y = 0) (x : Option α) : gZL y x = x := if_neg h
theorem sA_s (σ : St) (k : Nat) (f : Nat → Int32) : sA σ k f k = f := if_pos rfl
theorem sA_n (σ : St) {k j : Nat} (f : Nat → Int32) (h : j ≠ k) : sA σ k f j = σ j := if_neg h
theorem upd_s (f : Nat → Int32) (k : Nat) (x : Int32) : upd f k x k = x := if_pos rfl
theorem upd_n (f : Nat → Int32) {k j : Nat} (x : Int32) (h : j ≠ k) : upd f k x j = f j := if_neg h
theorem lit (n : Nat) : (OfNat.ofNat n : Int32) = nI n := rfl
theorem cl_nI {k : Nat} (h : k < 2 ^ 31) : (nI k).toNatClampNeg = k := nI_clamp h
theorem nI_nm1 {k : Nat} (h : k < 2 ^ 31) : ¬ nI k = -1 := by
  intro e
  have h2 := congrArg Int32.toInt e
  rw [nI_toInt h] at h2
  have : (-1 : Int32).toInt = -1 := by decide
  omega
theorem nI_inj {a b : Nat} (ha : a < 2 ^ 31) (hb : b < 2 ^ 31) (h : nI a = nI b) : a = b := (nI_eq ha hb).mp h
theorem nI_neq {a b : Nat} (ha : a < 2 ^ 31) (hb : b < 2 ^ 31) (h : a ≠ b) : ¬ nI a = nI b := fun e => h (nI_inj ha hb e)
theorem m1_neg : (-1 : Int32) < 0 := by decide
theorem m1_nle : ¬ (0 : Int32) ≤ -1 := by decide
/-! bits of small sets, counted through -/
theorem b_get : ∀ h, h < 256 → ∀ i, i < 8 → ((nI h >>> (nI i &&& 31)) &&& 1) = nI (h / 2 ^ i % 2) := by decide +kernel
theorem b_one : ∀ h, h < 256 → ∀ i, i < 8 → (nI h &&& ((1 : Int32) <<< (nI i &&& 31))) = if h / 2 ^ i % 2 = 1 then ((1 : Int32) <<< (nI i &&& 31)) else 0 := by decide +kernel
theorem b_set : ∀ h, h < 256 → ∀ i, i < 8 → (nI h ||| ((1 : Int32) <<< (nI i &&& 31))) = nI (h ||| 2 ^ i) ∧ h ||| 2 ^ i < 256 := by decide +kernel
theorem b_clr : ∀ h, h < 256 → ∀ i, i < 8 → (nI h &&& (((1 : Int32) <<< (nI i &&& 31)) ^^^ (-1))) = nI (h - h / 2 ^ i % 2 * 2 ^ i) := by decide +kernel
theorem b_xor : ∀ h, h < 256 → ∀ i, i < 8 → (nI h ^^^ ((1 : Int32) <<< (nI i &&& 31))) = nI (h ^^^ 2 ^ i) ∧ h ^^^ 2 ^ i < 256 := by decide +kernel
theorem or0 (x : Int32) : x ||| 0 = x := by simp
/-! how many do not stand at 4 -/
def cntL (f : Nat → Int32) : Nat → Nat
  | 0 => 0
  | n + 1 => cntL f n + (if f n = 4 then 0 else 1)
theorem cntL_le (f : Nat → Int32) : ∀ n, cntL f n ≤ n
  | 0 => Nat.le_refl 0
  | n + 1 => by
    have h := cntL_le f n
    unfold cntL
    split <;> omega
theorem cntL_cong {f g : Nat → Int32} : ∀ {n : Nat}, (∀ i, i < n → (f i = 4 ↔ g i = 4)) → cntL f n = cntL g n
  | 0, _ => rfl
  | n + 1, h => by
    unfold cntL
    rw [cntL_cong (fun i hi => h i (by omega))]
    have h2 := h n (by omega)
    by_cases e : f n = 4
    · rw [if_pos e, if_pos (h2.mp e)]
    · rw [if_neg e, if_neg (fun q => e (h2.mpr q))]
theorem cntL_gone {f : Nat → Int32} {k : Nat} : ∀ {n : Nat}, k < n → ¬ f k = 4 → cntL (upd f k 4) n + 1 = cntL f n
  | 0, h, _ => absurd h (Nat.not_lt_zero k)
  | n + 1, h, hf => by
    unfold cntL
    by_cases e : k = n
    · subst e
      rw [upd_s, if_pos rfl, if_neg hf]
      rw [cntL_cong (f := upd f k 4) (g := f) (fun i hi => by rw [upd_n _ _ (by omega)])]
    · rw [upd_n _ _ (Ne.symm e)]
      have := cntL_gone (n := n) (by omega) hf
      omega
theorem cntL_zero {f : Nat → Int32} : ∀ {n : Nat}, cntL f n = 0 → ∀ i, i < n → f i = 4
  | 0, _, i, hi => absurd hi (Nat.not_lt_zero i)
  | n + 1, h, i, hi => by
    unfold cntL at h
    by_cases e : f n = 4
    · by_cases e2 : i = n
      · subst e2; exact e
      · exact cntL_zero (n := n) (by omega) i (by omega)
    · rw [if_neg e] at h
      omega
theorem cntL_all {f : Nat → Int32} : ∀ {n : Nat}, (∀ i, i < n → ¬ f i = 4) → cntL f n = n
  | 0, _ => rfl
  | n + 1, h => by
    unfold cntL
    rw [cntL_all (fun i hi => h i (by omega)), if_neg (h n (by omega))]
