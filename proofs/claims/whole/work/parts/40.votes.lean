def anyB (p : Nat → Bool) : Nat → Bool
  | 0 => false
  | n + 1 => anyB p n || p n
theorem anyB_mono {p : Nat → Bool} {m : Nat} (h : anyB p m = true) : ∀ {n : Nat}, m ≤ n → anyB p n = true := by
  intro n
  induction n with
  | zero => intro hm; rw [show m = 0 by omega] at h; exact h
  | succ n ih =>
    intro hm
    by_cases c : m = n + 1
    · rw [← c]; exact h
    · rw [anyB, ih (by omega)]; rfl
theorem anyB_congr {p q : Nat → Bool} : ∀ {n : Nat}, (∀ k, k < n → p k = q k) → anyB p n = anyB q n := by
  intro n
  induction n with
  | zero => intro _; rfl
  | succ n ih => intro h; rw [anyB, anyB, ih (fun k hk => h k (by omega)), h n (by omega)]
/-- a vote of a member on a side -/
def pv (S : ST) (d : Int32) (m : Int32) (sd : Int32) (k : Nat) : Bool := decide (S.2.1 24 k = 9) && (decide (S.2.1 26 k = d) && (decide (S.2.1 27 k = m) && decide (S.2.1 28 k = sd)))
theorem has_h3 (S : ST) (d m sd : Int32) {n : Nat} (hn : n ≤ 180) (e : Nat) : ∀ j f, f + j = n → anyB (pv S d m sd) f = false → m_has_h3 (j + 1 + e) S d m sd (nI n) (nI f) = some (bit (anyB (pv S d m sd) n), S) := by
  intro j
  induction j with
  | zero =>
    intro f hf h0
    rw [show 0 + 1 + e = e + 1 by omega, m_has_h3, if_pos (nI_le (by omega) (by omega)), show n = f by omega, h0]; rfl
  | succ j ih =>
    intro f hf h0
    rw [show j + 1 + 1 + e = (j + 1 + e) + 1 by omega, m_has_h3, if_neg (nI_ge (by omega) (by omega))]
    unfold m_has_j57
    simp only [G_in (show f < 180 by omega) (by decide : 180 < 2 ^ 31), nI_clamp (show f < 2 ^ 31 by omega), nI_1]
    have go : pv S d m sd f = false → m_has_h3 (j + 1 + e) S d m sd (nI n) (nI (f + 1)) = some (bit (anyB (pv S d m sd) n), S) := fun q => ih (f + 1) (by omega) (by rw [anyB, h0, q]; rfl)
    by_cases c1 : S.2.1 24 f = 9
    · rw [if_pos c1]
      by_cases c2 : S.2.1 26 f = d
      · rw [if_pos c2]
        by_cases c3 : S.2.1 27 f = m
        · rw [if_pos c3]
          by_cases c4 : S.2.1 28 f = sd
          · rw [if_pos c4, anyB_mono (m := f + 1) (by rw [anyB, h0]; simp [pv, c1, c2, c3, c4]) (by omega)]; rfl
          · rw [if_neg c4]; exact go (by simp [pv, c4])
        · rw [if_neg c3]; exact go (by simp [pv, c3])
      · rw [if_neg c2]; exact go (by simp [pv, c2])
    · rw [if_neg c1]; exact go (by simp [pv, c1])
theorem has_eq (S : ST) (d m sd : Int32) {n : Nat} (hn : n ≤ 180) : m_has S d m sd (nI n) = some (bit (anyB (pv S d m sd) n), S) := by
  obtain ⟨e, he⟩ := FU_s (n + 1) (by omega)
  unfold m_has
  rw [he]
  exact has_h3 S d m sd hn e n 0 (by omega) rfl
/-- sets of members -/
def v8 (b0 b1 b2 b3 b4 b5 b6 b7 : Bool) : Int32 := nI (b0.toNat + 2 * b1.toNat + 4 * b2.toNat + 8 * b3.toNat + 16 * b4.toNat + 32 * b5.toNat + 64 * b6.toNat + 128 * b7.toNat)
theorem v8_bt : ∀ b0 b1 b2 b3 b4 b5 b6 b7 : Bool, ∀ i, i < 32 → bt (v8 b0 b1 b2 b3 b4 b5 b6 b7) i = [b0, b1, b2, b3, b4, b5, b6, b7].getD i false := by decide +kernel
def bs (p : Nat → Bool) : Int32 := v8 (p 0) (p 1) (p 2) (p 3) (p 4) (p 5) (p 6) (p 7)
theorem l8 (p : Nat → Bool) (i : Nat) : [p 0, p 1, p 2, p 3, p 4, p 5, p 6, p 7].getD i false = (decide (i < 8) && p i) := by
  rcases Nat.lt_or_ge i 8 with h | h
  · rcases (show i = 0 ∨ i = 1 ∨ i = 2 ∨ i = 3 ∨ i = 4 ∨ i = 5 ∨ i = 6 ∨ i = 7 by omega) with rfl | rfl | rfl | rfl | rfl | rfl | rfl | rfl <;> rfl
  · rw [decide_eq_false (by omega), Bool.false_and, List.getD_eq_default _ _ h]
theorem bs_bt (p : Nat → Bool) {i : Nat} (hi : i < 32) : bt (bs p) i = (decide (i < 8) && p i) := by rw [bs, v8_bt _ _ _ _ _ _ _ _ i hi, l8]
theorem of_bt {x : Int32} {p : Nat → Bool} (h : ∀ i, i < 32 → bt x i = (decide (i < 8) && p i)) : x = bs p := b_ext (fun i hi => by rw [h i hi, bs_bt p hi])
theorem bs_0 : bs (fun _ => false) = 0 := rfl
theorem bt_1 : ∀ m, m < 8 → ∀ i, i < 32 → bt ((1 : Int32) <<< (nI m &&& 31)) i = decide (i = m) := by decide +kernel
theorem bs_or (p : Nat → Bool) {m : Nat} (hm : m < 8) : bs p ||| ((1 : Int32) <<< (nI m &&& 31)) = bs (fun i => p i || decide (i = m)) := of_bt (fun i hi => by
  rw [b_or, bs_bt p hi, bt_1 m hm i hi]
  by_cases c : i = m
  · subst c; simp [hm]
  · simp [c])
theorem bs_and (p q : Nat → Bool) : bs p &&& bs q = bs (fun i => p i && q i) := of_bt (fun i hi => by rw [b_and, bs_bt p hi, bs_bt q hi]; cases decide (i < 8) <;> simp)
theorem b_n1 : ∀ i, i < 32 → bt (-1) i = true := by decide +kernel
theorem bs_nand (p q : Nat → Bool) : bs p &&& (bs q ^^^ (-1)) = bs (fun i => p i && !q i) := of_bt (fun i hi => by rw [b_and, b_xor, bs_bt p hi, bs_bt q hi, b_n1 i hi]; cases decide (i < 8) <;> simp)
def cntU (p : Nat → Bool) : Nat → Nat
  | 0 => 0
  | m + 1 => cntU p m + (p m).toNat
theorem bcv : ∀ b0 b1 b2 b3 b4 b5 b6 b7 : Bool, j6_bitCount_0f7a4 (v8 b0 b1 b2 b3 b4 b5 b6 b7) = some (nI (0 + b0.toNat + b1.toNat + b2.toNat + b3.toNat + b4.toNat + b5.toNat + b6.toNat + b7.toNat)) := by decide +kernel
theorem bc (p : Nat → Bool) : j6_bitCount_0f7a4 (bs p) = some (nI (cntU p 8)) := bcv _ _ _ _ _ _ _ _
theorem cntU_le (p : Nat → Bool) : ∀ m, cntU p m ≤ m := by
  intro m
  induction m with
  | zero => exact Nat.le_refl 0
  | succ m ih => rw [cntU]; have : (p m).toNat ≤ 1 := by cases p m <;> decide
                 omega
