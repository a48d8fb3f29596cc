/-! a text's tokens: kind (the class's numbers), place, value, name, how many -/
abbrev TZ : Type := (Nat → Nat) × (Nat → Nat) × (Nat → Nat) × (Nat → List Nat) × Nat
def zK (z : TZ) (q : Nat) : Nat := z.1 q
def zP (z : TZ) (q : Nat) : Nat := z.2.1 q
def zV (z : TZ) (q : Nat) : Nat := z.2.2.1 q
def zN (z : TZ) (q : Nat) : List Nat := z.2.2.2.1 q
def zx (z : TZ) : Nat := z.2.2.2.2
def okZ (z : TZ) : Prop := 1 ≤ zx z ∧ zx z ≤ 401 ∧ (∀ q, zK z q ≤ 38) ∧ (∀ q, zP z q ≤ 2000) ∧ (∀ q, zK z q = 25 → zV z q < 10000) ∧ (∀ q, zK z q = 24 → lets (zN z q) ∧ (zN z q).length ≤ 8) ∧ (zx z = 401 ∨ zK z (zx z - 1) = 37 ∨ zK z (zx z - 1) = 38)
def tabX (z : TZ) (S : ST) : Prop := (S.1 27 = nI (zx z) ∧ S.1 10 = -1) ∧ ∀ q, q < zx z → S.2.1 35 q = nI (zK z q) ∧ S.2.1 36 q = nI (zP z q) ∧ (zK z q = 25 → S.2.2 2 q = lN (zV z q)) ∧ (zK z q = 24 → S.2.2 2 q = lN (e32 (zN z q)))
def tabM (z : TZ) (T : ST) : Prop := ∀ q, q < zx z → T.2.1 2 q = nI (kM (zK z q)) ∧ T.2.1 3 q = nI (zP z q) ∧ (zK z q = 25 → T.2.1 4 q = nI (zV z q)) ∧ (zK z q = 24 → T.2.2 0 q = lN (e27 (zN z q)))
theorem tabX_g {z : TZ} {I A L : List Nat} {S S' : ST} (hI : 27 ∉ I) (h35 : 35 ∉ A) (h36 : 36 ∉ A) (hL : 2 ∉ L) (g : g3 I A L S S') (h : tabX z S) (h10 : 10 ∉ I := by decide) : tabX z S' := ⟨⟨(g.1 27 hI).trans h.1.1, (g.1 10 h10).trans h.1.2⟩, fun q hq => by rw [g.2.1 35 h35, g.2.1 36 h36, g.2.2 2 hL]; exact h.2 q hq⟩
theorem tabM_g {z : TZ} {I A L : List Nat} {S S' : ST} (h2 : 2 ∉ A) (h3 : 3 ∉ A) (h4 : 4 ∉ A) (hL : 0 ∉ L) (g : g3 I A L S S') (h : tabM z S) : tabM z S' := fun q hq => by rw [g.2.1 2 h2, g.2.1 3 h3, g.2.1 4 h4, g.2.2 0 hL]; exact h q hq
def lvX (z : TZ) (S : ST) (p : Nat) : Prop := tabX z S ∧ p < zx z ∧ S.1 6 = nI p ∧ S.1 7 = nI (zK z p) ∧ S.1 8 = nI (zP z p) ∧ S.2.2 1 0 = S.2.2 2 p ∧ S.1 9 = 0
def lvM (z : TZ) (T : ST) (p : Nat) : Prop := tabM z T ∧ p < zx z ∧ T.1 4 = nI p ∧ T.1 6 = 0
/-- a fault -/
def dX (f q : Nat) (S : ST) : Prop := S.1 9 = nI f ∧ S.1 10 = nI q
def dM (f q : Nat) (T : ST) : Prop := T.1 6 = nI f ∧ T.1 7 = nI q ∧ ∃ p, p ≤ 400 ∧ T.1 4 = nI p
def okD (f q : Nat) : Prop := 1 ≤ f ∧ f ≤ 5 ∧ q ≤ 2000
theorem dX0 {f q : Nat} {S : ST} (ho : okD f q) (h : dX f q S) : ¬ S.1 9 = 0 := by
  rw [h.1]
  exact fun z => absurd ((nI_eq (b := 0) (by have := ho.2.1; omega) (by decide)).mp z) (by have := ho.1; omega)
theorem dM0 {f q : Nat} {T : ST} (ho : okD f q) (h : dM f q T) : ¬ T.1 6 = 0 := by
  rw [h.1]
  exact fun z => absurd ((nI_eq (b := 0) (by have := ho.2.1; omega) (by decide)).mp z) (by have := ho.1; omega)
theorem dM1 {f q : Nat} {T : ST} (ho : okD f q) (h : dM f q T) : ¬ T.1 6 ≤ 0 := by
  rw [h.1]
  exact nI_ge (a := 0) (by have := ho.1; omega) (by have := ho.2.1; omega)
theorem lv_n {z : TZ} {S : ST} {p : Nat} (hz : okZ z) (h : lvX z S p) (hk : zK z p ≤ 36) (h4 : p < 400) : p + 1 < zx z := by
  have h1 := h.2.1
  rcases hz.2.2.2.2.2.2 with q | q | q
  · omega
  · by_cases c : p = zx z - 1
    · rw [← c] at q; omega
    · omega
  · by_cases c : p = zx z - 1
    · rw [← c] at q; omega
    · omega
theorem lv_m {z : TZ} {T : ST} {p : Nat} (hz : okZ z) (h : lvM z T p) (hk : zK z p ≤ 36) (h4 : p < 400) : p + 1 < zx z := by
  have h1 := h.2.1
  rcases hz.2.2.2.2.2.2 with q | q | q
  · omega
  · by_cases c : p = zx z - 1
    · rw [← c] at q; omega
    · omega
  · by_cases c : p = zx z - 1
    · rw [← c] at q; omega
    · omega
theorem lv_4 {z : TZ} {S : ST} {p : Nat} (hz : okZ z) (h : lvX z S p) : p ≤ 400 := by have h1 := h.2.1; have h2 := hz.2.1; omega
theorem lvm_4 {z : TZ} {S : ST} {p : Nat} (hz : okZ z) (h : lvM z S p) : p ≤ 400 := by have h1 := h.2.1; have h2 := hz.2.1; omega
theorem ref_y {S : ST} (h : S.1 9 = 0) (f : Int32) : x2_refuse S f = some (sI (sI S 9 f) 10 (S.1 8)) := by unfold x2_refuse; rw [if_pos h]; rfl
theorem ref_d {S : ST} (h : ¬ S.1 9 = 0) (f : Int32) : x2_refuse S f = some S := by unfold x2_refuse; rw [if_neg h]
def mvX (S : ST) (p : Nat) : ST := sL (sI (sI (sI S 6 (nI p)) 7 (S.2.1 35 p)) 8 (S.2.1 36 p)) 1 (vp_updL (S.2.2 1) 0 (S.2.2 2 p))
theorem mvX_g (S : ST) (p : Nat) : g3 [6, 7, 8] [] [1] S (mvX S p) := g3_tr (g3_I _ _ (by decide)) (g3_tr (g3_I _ _ (by decide)) (g3_tr (g3_I _ _ (by decide)) (g3_L _ _ (by decide))))
theorem mv_y {z : TZ} {S : ST} {p : Nat} (hz : okZ z) (ht : tabX z S) (hp : p < zx z) : x2_moveTo S (nI p) = some (mvX S p) := by
  have := hz.2.1
  unfold x2_moveTo mvX
  simp only [show (sI S 6 (nI p)).1 27 = nI (zx z) from ht.1.1, if_neg (nI_pos (show p < 2 ^ 31 by omega)), if_neg (nI_ge hp (show zx z < 2 ^ 31 by omega)), G_in (show p < 401 by omega) (by decide : 401 < 2 ^ 31), nI_clamp (show p < 2 ^ 31 by omega)]
  rfl
theorem mv_l {z : TZ} {S : ST} {p : Nat} (ht : tabX z S) (hp : p < zx z) (h9 : S.1 9 = 0) : lvX z (mvX S p) p := ⟨tabX_g (by decide) (by decide) (by decide) (by decide) (mvX_g S p) ht, hp, rfl, (ht.2 p hp).1, (ht.2 p hp).2.1, by show vp_updL (S.2.2 1) 0 (S.2.2 2 p) 0 = _; rw [pk_uLs]; rfl, h9⟩
theorem acc_y {z : TZ} {S : ST} {p k : Nat} (hz : okZ z) (h : lvX z S p) (hk : zK z p = k) (hk6 : k ≤ 36) (h4 : p < 400) : x2_accept S (nI k) = some (1, mvX S (p + 1)) ∧ lvX z (mvX S (p + 1)) (p + 1) := by
  have hn := lv_n hz h (by omega) h4
  refine ⟨?_, mv_l h.1 hn h.2.2.2.2.2.2⟩
  unfold x2_accept x2_accept_j31 x2_accept_j48
  rw [if_pos (by rw [h.2.2.2.1, hk]), h.2.2.1, if_pos (show nI p < 400 from nI_lt (b := 400) h4 (by decide)), if_pos h.2.2.2.2.2.2, nI_1, mv_y hz h.1 hn, calV_s, if_pos (show (mvX S (p + 1)).1 9 = 0 from h.2.2.2.2.2.2)]
theorem acc_r {z : TZ} {S : ST} {p k : Nat} (hz : okZ z) (h : lvX z S p) (hk : zK z p = k) (h4 : p = 400) : x2_accept S (nI k) = some (0, sI (sI S 9 2) 10 (nI (zP z p))) := by
  unfold x2_accept x2_accept_j31 x2_accept_j48
  rw [if_pos (by rw [h.2.2.2.1, hk]), h.2.2.1, if_neg (show ¬ nI p < 400 from nI_nlt (b := 400) (by omega) (by omega)), ref_y h.2.2.2.2.2.2, calV_s, h.2.2.2.2.1]
  rfl
theorem acc_n {z : TZ} {S : ST} {p k : Nat} (hz : okZ z) (h : lvX z S p) (hk : zK z p ≠ k) (hk6 : k ≤ 38) : x2_accept S (nI k) = some (0, sI (sI S 9 1) 10 (nI (zP z p))) := by
  have h38 := hz.2.2.1 p
  unfold x2_accept x2_accept_j31 x2_accept_j48
  rw [if_neg (by rw [h.2.2.2.1]; exact fun q => hk ((nI_eq (by omega) (by omega)).mp q)), ref_y h.2.2.2.2.2.2, calV_s, h.2.2.2.2.1]
  rfl
theorem acc_d {S : ST} (h : ¬ S.1 9 = 0) (k : Int32) : x2_accept S k = some (0, S) := by
  unfold x2_accept x2_accept_j31 x2_accept_j48
  rw [ref_d h, ref_d h, calV_s, if_neg h, if_neg h]
  split <;> (try split) <;> rfl
theorem is_l {z : TZ} {T : ST} {p k : Nat} (hz : okZ z) (h : lvM z T p) (hk : k ≤ 38) : m_is T (nI (kM k)) = some (bit (decide (zK z p = k)), T) := by
  have h38 := hz.2.2.1 p
  have h4 := lvm_4 hz h
  unfold m_is
  rw [if_pos h.2.2.2, h.2.2.1, G_in (by omega) (by decide), nI_clamp (by omega), (h.1 p h.2.1).1, bit_ite]
  have : (nI (kM (zK z p)) = nI (kM k)) = (zK z p = k) := by
    have h1 := kM_lt (zK z p) (by omega)
    have h2 := kM_lt k (by omega)
    exact propext ⟨fun q => kM_inj _ (by omega) _ (by omega) ((nI_eq (by omega) (by omega)).mp q), fun q => by rw [q]⟩
  simp only [this]
theorem is_d {T : ST} (h : ¬ T.1 6 = 0) (k : Int32) : m_is T k = some (0, T) := by unfold m_is; rw [if_neg h]
theorem fai_y {z : TZ} {T : ST} {p : Nat} (hz : okZ z) (h : lvM z T p) (f : Int32) : m_fail T f = some (sI (sI T 6 f) 7 (nI (zP z p))) := by
  have h4 := lvm_4 hz h
  unfold m_fail
  rw [if_pos (show T.1 6 ≤ 0 from by rw [h.2.2.2]; decide)]
  simp only [show (sI T 6 f).1 4 = nI p from h.2.2.1, G_in (show p < 403 by omega) (by decide : 403 < 2 ^ 31), nI_clamp (show p < 2 ^ 31 by omega)]
  rw [show (sI T 6 f).2.1 3 p = nI (zP z p) from (h.1 p h.2.1).2.1]
theorem fai_d {f q : Nat} {T : ST} (ho : okD f q) (h : dM f q T) (k : Int32) : m_fail T k = some T := by unfold m_fail; rw [if_neg (dM1 ho h)]
theorem nxt_y {z : TZ} {T : ST} {p : Nat} (hz : okZ z) (h : lvM z T p) (hk : zK z p ≤ 36) (h4 : p < 400) : m_next T = some (sI T 4 (nI (p + 1))) ∧ lvM z (sI T 4 (nI (p + 1))) (p + 1) := by
  have hn := lv_m hz h hk h4
  refine ⟨?_, h.1, hn, rfl, h.2.2.2⟩
  unfold m_next
  rw [h.2.2.1, if_neg (show ¬ nI p = 400 from fun q => absurd ((nI_eq (b := 400) (by omega) (by decide)).mp q) (by omega)), nI_1]
theorem nxt_r {z : TZ} {T : ST} {p : Nat} (hz : okZ z) (h : lvM z T p) (h4 : p = 400) : m_next T = some (sI (sI T 6 2) 7 (nI (zP z p))) := by
  unfold m_next
  rw [h.2.2.1, if_pos (show nI p = 400 from by rw [h4]; rfl), fai_y hz h, calV_s]
theorem nxt_d {f q : Nat} {T : ST} (ho : okD f q) (h : dM f q T) : ∃ T', m_next T = some T' ∧ g3 [4] [] [] T T' ∧ dM f q T' := by
  obtain ⟨h1, h2, p, hp, h3⟩ := id h
  unfold m_next
  rw [h3]
  by_cases c : p = 400
  · rw [if_pos (show nI p = 400 from by rw [c]; rfl), fai_d ho h, calV_s]
    exact ⟨T, rfl, g3_rfl _ _ _ _, h⟩
  · rw [if_neg (show ¬ nI p = 400 from fun q => c ((nI_eq (b := 400) (by omega) (by decide)).mp q)), nI_1]
    exact ⟨_, rfl, g3_I _ _ (by decide), h1, h2, p + 1, by omega, rfl⟩
theorem mus_y {z : TZ} {T : ST} {p k : Nat} (hz : okZ z) (h : lvM z T p) (hk : zK z p = k) : m_must T (nI (kM k)) = m_next T := by
  have h38 := hz.2.2.1 p
  unfold m_must
  rw [is_l hz h (by omega), hk, decide_eq_true rfl, cal_s, if_neg (by decide)]
  cases m_next T <;> rfl
theorem mus_n {z : TZ} {T : ST} {p k : Nat} (hz : okZ z) (h : lvM z T p) (hk : zK z p ≠ k) (hk8 : k ≤ 38) : m_must T (nI (kM k)) = some (sI (sI T 6 1) 7 (nI (zP z p))) := by
  unfold m_must
  rw [is_l hz h hk8, decide_eq_false hk, cal_s, if_pos (show bit false = 0 from rfl), fai_y hz h, calV_s]
theorem mus_d {f q : Nat} {T : ST} (ho : okD f q) (h : dM f q T) (k : Int32) : m_must T k = some T := by
  unfold m_must
  rw [is_d (dM0 ho h), cal_s, if_pos rfl, fai_d ho h, calV_s]
theorem ded_x {S : ST} {q : Nat} (f : Nat) : dX f q (sI (sI S 9 (nI f)) 10 (nI q)) := ⟨rfl, rfl⟩
theorem ded_m {z : TZ} {T : ST} {q p : Nat} (hz : okZ z) (h : lvM z T p) (f : Nat) : dM f q (sI (sI T 6 (nI f)) 7 (nI q)) := ⟨rfl, rfl, p, lvm_4 hz h, h.2.2.1⟩
/-- both go on behind a token that is wanted, or find one fault -/
theorem acc2 {z : TZ} {S T : ST} {p k : Nat} (hz : okZ z) (hX : lvX z S p) (hM : lvM z T p) (hk6 : k ≤ 36) : ∃ r S' T', x2_accept S (nI k) = some (bit r, S') ∧ m_must T (nI (kM k)) = some T' ∧ g3 [6, 7, 8, 9, 10] [] [1] S S' ∧ g3 [4, 6, 7] [] [] T T' ∧ ((r = true ∧ zK z p = k ∧ lvX z S' (p + 1) ∧ lvM z T' (p + 1)) ∨ (r = false ∧ ∃ f q, okD f q ∧ dX f q S' ∧ dM f q T')) := by
  have hP := hz.2.2.2.1 p
  have h4 := lv_4 hz hX
  by_cases c : zK z p = k
  · by_cases c4 : p = 400
    · refine ⟨false, _, _, acc_r hz hX c c4, by rw [mus_y hz hM c]; exact nxt_r hz hM c4, g3_tr (g3_I _ _ (by decide)) (g3_I _ _ (by decide)), g3_tr (g3_I _ _ (by decide)) (g3_I _ _ (by decide)), Or.inr ⟨rfl, 2, zP z p, ⟨by decide, by decide, hP⟩, ded_x 2, ded_m hz hM 2⟩⟩
    · obtain ⟨a1, a2⟩ := acc_y hz hX c hk6 (by omega)
      obtain ⟨b1, b2⟩ := nxt_y hz hM (by omega) (by omega)
      exact ⟨true, _, _, a1, by rw [mus_y hz hM c]; exact b1, g3_sub (by decide) (by decide) (by decide) (mvX_g S (p + 1)), g3_I _ _ (by decide), Or.inl ⟨rfl, c, a2, b2⟩⟩
  · exact ⟨false, _, _, acc_n hz hX c (by omega), mus_n hz hM c (by omega), g3_tr (g3_I _ _ (by decide)) (g3_I _ _ (by decide)), g3_tr (g3_I _ _ (by decide)) (g3_I _ _ (by decide)), Or.inr ⟨rfl, 1, zP z p, ⟨by decide, by decide, hP⟩, ded_x 1, ded_m hz hM 1⟩⟩
/-- the same where the token is known -/
theorem nxt2 {z : TZ} {S T : ST} {p k : Nat} (hz : okZ z) (hX : lvX z S p) (hM : lvM z T p) (hk : zK z p = k) (hk6 : k ≤ 36) : ∃ r S' T', x2_accept S (nI k) = some (bit r, S') ∧ m_next T = some T' ∧ g3 [6, 7, 8, 9, 10] [] [1] S S' ∧ g3 [4, 6, 7] [] [] T T' ∧ ((r = true ∧ lvX z S' (p + 1) ∧ lvM z T' (p + 1)) ∨ (r = false ∧ ∃ f q, okD f q ∧ dX f q S' ∧ dM f q T')) := by
  obtain ⟨r, S', T', h1, h2, h3, h4, h5⟩ := acc2 hz hX hM hk6
  rw [mus_y hz hM hk] at h2
  refine ⟨r, S', T', h1, h2, h3, h4, ?_⟩
  rcases h5 with ⟨a, -, b, c⟩ | a
  · exact Or.inl ⟨a, b, c⟩
  · exact Or.inr a
