def kM (k : Nat) : Nat := [20, 22, 23, 29, 30, 31, 21, 24, 25, 26, 27, 28, 32, 33, 34, 35, 36, 37, 38, 39, 40, 41, 42, 43, 1, 2, 4, 8, 9, 10, 15, 11, 12, 13, 14, 6, 7, 0, 3].getD k 99
theorem kM_inj : ∀ a, a < 39 → ∀ b, b < 39 → kM a = kM b → a = b := by decide +kernel
theorem kM_lt : ∀ a, a < 39 → kM a < 44 := by decide +kernel
def KW : List (List Nat) := [[13, 15, 18, 6], [15, 20], [6, 9], [18, 15], [4, 14, 1], [20, 15, 14], [20, 8, 7, 9, 18], [4, 14, 5, 13], [18, 1, 2], [5, 22, 1, 5, 12], [20, 18, 21, 15, 3], [5, 11, 9, 18, 20, 19], [4, 18, 15, 23], [19, 1, 23], [18, 5, 16, 1, 16], [20, 18, 15, 19], [5, 20, 21, 14, 9, 13], [18, 5, 2, 13, 5, 13], [5, 3, 9, 6, 6, 15], [19, 25, 1, 4], [19, 5, 13, 9, 20], [4, 18, 1, 5, 8], [20, 24, 5, 14], [19, 5, 14, 9, 12]]
def KM : List (List Nat) := [[13, 15, 18, 6], [20, 8, 7, 9, 18], [15, 20], [6, 9], [4, 14, 5, 13], [18, 1, 2], [5, 22, 1, 5, 12], [20, 18, 21, 15, 3], [5, 11, 9, 18, 20, 19], [18, 15], [4, 14, 1], [20, 15, 14], [4, 18, 15, 23], [19, 1, 23], [18, 5, 16, 1, 16], [20, 18, 15, 19], [5, 20, 21, 14, 9, 13], [18, 5, 2, 13, 5, 13], [5, 3, 9, 6, 6, 15], [19, 25, 1, 4], [19, 5, 13, 9, 20], [4, 18, 1, 5, 8], [20, 24, 5, 14], [19, 5, 14, 9, 12]]
def kwd (nm : List Nat) : Nat := fnd (fun i => decide (KW.getD i [] = nm)) 24 0
def kwm (nm : List Nat) : Nat := fnd (fun i => decide (KM.getD i [] = nm)) 24 0
def tx0 : List Nat := [102, 114, 111, 109, 32, 116, 111, 32, 105, 102, 32, 111, 114, 32, 97, 110, 100, 32, 110, 111, 116, 32, 114, 105, 103, 104, 116, 32, 109, 101, 110, 100, 32, 98, 97, 114, 32, 108, 101, 97, 118, 101, 32, 99, 111, 117, 114, 116, 32, 115, 116, 114, 105, 107, 101, 32]
def tx1 : List Nat := [119, 111, 114, 100, 32, 119, 97, 115, 32, 112, 97, 112, 101, 114, 32, 115, 111, 114, 116, 32, 109, 105, 110, 117, 116, 101, 32, 109, 101, 109, 98, 101, 114, 32, 111, 102, 102, 105, 99, 101, 32, 100, 97, 121, 115, 32, 116, 105, 109, 101, 115, 32, 104, 101, 97, 114, 100, 32, 110, 101, 120, 116, 32, 108, 105, 110, 101, 115, 32]
def wds : List Nat → Int64 → List Int64
  | [], _ => []
  | x :: r, w => if x = 32 then w :: wds r 0 else wds r (w * 32 + lN (x - 96))
theorem lt24 {k : Nat} (h : k < 24) : k = 0 ∨ k = 1 ∨ k = 2 ∨ k = 3 ∨ k = 4 ∨ k = 5 ∨ k = 6 ∨ k = 7 ∨ k = 8 ∨ k = 9 ∨ k = 10 ∨ k = 11 ∨ k = 12 ∨ k = 13 ∨ k = 14 ∨ k = 15 ∨ k = 16 ∨ k = 17 ∨ k = 18 ∨ k = 19 ∨ k = 20 ∨ k = 21 ∨ k = 22 ∨ k = 23 := by omega
theorem pan {q : Nat} {C : List Nat} (hlen : sLen q = nI C.length) (hL : lenS.getD q 0 = C.length) (hC : C.length < 100) (hch : ∀ i, i < C.length → sCh q (nI i) = nI (C.getD i 0)) (hok : ∀ i, i < C.length → C.getD i 0 = 32 ∨ (97 ≤ C.getD i 0 ∧ C.getD i 0 < 256)) (v : Int64) (e : Nat) : ∀ r i w k, C.drop i = r → i ≤ C.length → (∀ x, x ∈ wds r w → x ≠ v) → x10_placeAmong_h8 q (r.length + 1 + e) v k w (nI i) = some (-1) := by
  intro r
  induction r with
  | nil =>
    intro i w k h hi _
    have : C.length ≤ i := List.drop_eq_nil_iff.mp h
    rw [show ([] : List Nat).length + 1 + e = e + 1 by simp; omega, x10_placeAmong_h8, hlen, if_pos (nI_le (by omega) (by omega))]
  | cons x r ih =>
    intro i w k h hi hw
    have hlt : i < C.length := by
      rcases Nat.lt_or_ge i C.length with z | z
      · exact z
      · rw [List.drop_eq_nil_iff.mpr z] at h; cases h
    have hx : C.getD i 0 = x := by
      have : (C.drop i)[0]? = some x := by rw [h]; rfl
      rw [List.getElem?_drop, Nat.add_zero] at this
      rw [List.getD_eq_getElem?_getD, this]; rfl
    have hd : C.drop (i + 1) = r := by rw [← List.drop_drop, h]; rfl
    have hk := hok i hlt
    rw [hx] at hk
    rw [List.length_cons, show r.length + 1 + 1 + e = (r.length + 1 + e) + 1 by omega, x10_placeAmong_h8, hlen, if_neg (nI_ge hlt (by omega)), hL, G_in hlt (by omega), hch i hlt, hx]
    unfold x10_placeAmong_j59
    by_cases c : x = 32
    · rw [wds, if_pos c] at hw
      have hne : w ≠ v := hw w (by simp)
      rw [c, if_pos (show nI 32 = 32 from rfl), if_neg (fun z => hne (by rw [cmp0] at z; exact z)), nI_1]
      exact ih (i + 1) 0 _ hd (by omega) (fun y hy => hw y (by simp [hy]))
    · rw [wds, if_neg c] at hw
      have hx2 := hk.resolve_left c
      rw [if_neg (show ¬ nI x = 32 from fun z => c ((nI_eq (b := 32) (by omega) (by decide)).mp z))]
      unfold x10_packLetter
      rw [show (97 : Int32) = nI 97 from rfl, pk_sub hx2.1, nI_1, nI_l (by omega), show x - 97 + 1 = x - 96 by omega, cal0_s, nI_1]
      exact ih (i + 1) _ _ hd (by omega) hw
theorem tx0_l : sLen 0 = nI tx0.length ∧ lenS.getD 0 0 = tx0.length ∧ tx0.length < 100 := by decide +kernel
theorem tx1_l : sLen 1 = nI tx1.length ∧ lenS.getD 1 0 = tx1.length ∧ tx1.length < 100 := by decide +kernel
theorem tx0_c : ∀ i, i < tx0.length → sCh 0 (nI i) = nI (tx0.getD i 0) := by decide +kernel
theorem tx1_c : ∀ i, i < tx1.length → sCh 1 (nI i) = nI (tx1.getD i 0) := by decide +kernel
theorem tx0_o : ∀ i, i < tx0.length → tx0.getD i 0 = 32 ∨ (97 ≤ tx0.getD i 0 ∧ tx0.getD i 0 < 256) := by decide +kernel
theorem tx1_o : ∀ i, i < tx1.length → tx1.getD i 0 = 32 ∨ (97 ≤ tx1.getD i 0 ∧ tx1.getD i 0 < 256) := by decide +kernel
theorem tx0_w : wds tx0 0 = (KW.take 12).map (fun l => lN (e32 l)) := by decide +kernel
theorem tx1_w : wds tx1 0 = (KW.drop 12).map (fun l => lN (e32 l)) := by decide +kernel
theorem wt_k : ∀ k, k < 24 → x10_wordToken (lN (e32 (KW.getD k []))) = some (nI k) := by decide +kernel
theorem KW_ok : ∀ l, l ∈ KW → lets l ∧ l.length ≤ 8 := by
  intro l hl
  simp only [KW, List.mem_cons, List.not_mem_nil, or_false] at hl
  rcases hl with rfl | rfl | rfl | rfl | rfl | rfl | rfl | rfl | rfl | rfl | rfl | rfl | rfl | rfl | rfl | rfl | rfl | rfl | rfl | rfl | rfl | rfl | rfl | rfl <;> simp [lets]
theorem KM_ok : ∀ l, l ∈ KM → lets l ∧ l.length ≤ 8 := by
  intro l hl
  simp only [KM, List.mem_cons, List.not_mem_nil, or_false] at hl
  rcases hl with rfl | rfl | rfl | rfl | rfl | rfl | rfl | rfl | rfl | rfl | rfl | rfl | rfl | rfl | rfl | rfl | rfl | rfl | rfl | rfl | rfl | rfl | rfl | rfl <;> simp [lets]
theorem mem_getD {l : List (List Nat)} {x : List Nat} (h : x ∈ l) : ∃ i, i < l.length ∧ l.getD i [] = x := by
  obtain ⟨i, hi, e⟩ := List.mem_iff_getElem.mp h
  exact ⟨i, hi, by rw [List.getD_eq_getElem?_getD, List.getElem?_eq_getElem hi]; exact e⟩
theorem kwd_le (nm : List Nat) : kwd nm ≤ 24 := fnd_le _ 24 0
theorem kwm_le (nm : List Nat) : kwm nm ≤ 24 := fnd_le _ 24 0
theorem kwd_y {nm : List Nat} (h : kwd nm < 24) : KW.getD (kwd nm) [] = nm := of_decide_eq_true (fnd_yes (fun i => decide (KW.getD i [] = nm)) 24 0 (by unfold kwd at h; omega))
theorem kwm_y {nm : List Nat} (h : kwm nm < 24) : KM.getD (kwm nm) [] = nm := of_decide_eq_true (fnd_yes (fun i => decide (KM.getD i [] = nm)) 24 0 (by unfold kwm at h; omega))
theorem kwd_n {nm : List Nat} (h : ¬ kwd nm < 24) : ∀ k, k < 24 → KW.getD k [] ≠ nm := fun k hk => of_decide_eq_false (fnd_no (fun i => decide (KW.getD i [] = nm)) 24 0 k (by omega) (by unfold kwd at h; omega))
theorem kwm_n {nm : List Nat} (h : ¬ kwm nm < 24) : ∀ k, k < 24 → KM.getD k [] ≠ nm := fun k hk => of_decide_eq_false (fnd_no (fun i => decide (KM.getD i [] = nm)) 24 0 k (by omega) (by unfold kwm at h; omega))
theorem xword {nm : List Nat} (hl : lets nm) (h8 : nm.length ≤ 8) : x10_wordToken (lN (e32 nm)) = some (nI (kwd nm)) := by
  by_cases c : kwd nm < 24
  · have := wt_k (kwd nm) c
    rw [kwd_y c] at this
    exact this
  · have h24 : kwd nm = 24 := by have := kwd_le nm; omega
    have hno : ∀ l, l ∈ KW → lN (e32 l) ≠ lN (e32 nm) := fun l hm z => by
      obtain ⟨k, hk, ek⟩ := mem_getD hm
      have ho := KW_ok l hm
      exact kwd_n c k hk (ek.trans ((n32 ho.1 hl ho.2 h8).mp z))
    have p0 : x10_placeAmong 0 (lN (e32 nm)) = some (-1) := by
      obtain ⟨e, he⟩ := FU_s (tx0.length + 1) (by decide)
      unfold x10_placeAmong
      rw [he]
      exact pan tx0_l.1 tx0_l.2.1 tx0_l.2.2 tx0_c tx0_o (lN (e32 nm)) e tx0 0 0 0 rfl (by decide) (fun x hx => by
        rw [tx0_w] at hx
        obtain ⟨l, hm, rfl⟩ := List.mem_map.mp hx
        exact hno l (List.mem_of_mem_take hm))
    have p1 : x10_placeAmong 1 (lN (e32 nm)) = some (-1) := by
      obtain ⟨e, he⟩ := FU_s (tx1.length + 1) (by decide)
      unfold x10_placeAmong
      rw [he]
      exact pan tx1_l.1 tx1_l.2.1 tx1_l.2.2 tx1_c tx1_o (lN (e32 nm)) e tx1 0 0 0 rfl (by decide) (fun x hx => by
        rw [tx1_w] at hx
        obtain ⟨l, hm, rfl⟩ := List.mem_map.mp hx
        exact hno l (List.mem_of_mem_drop hm))
    unfold x10_wordToken
    rw [p0, cal0_s, if_pos rfl, p1, cal0_s, if_pos rfl, h24]
    rfl
theorem KM_e : ∀ k, k < 24 → keyT.getD k 0 = e27 (KM.getD k []) := by decide +kernel
theorem KM_d : ∀ k, k < 24 → ∀ j, j < 24 → KM.getD k [] = KM.getD j [] → k = j := by decide +kernel
theorem KM_m : ∀ k, k < 24 → KM.getD k [] ∈ KM := by decide +kernel
theorem mkw {T : ST} (hk : ∀ k, k < 24 → T.2.2 1 k = lN (keyT.getD k 0)) {nm : List Nat} (hl : lets nm) (h8 : nm.length ≤ 8) (K : ST → Int32 → Int32 → Int64 → Int32 → Option ST) (l1 l3 : Int32) (e : Nat) : ∀ j i, i + j = 24 → m_cut_h146 K (j + 1 + e) T l1 l3 (lN (e27 nm)) (if kwm nm < i then nI (20 + kwm nm) else 1) (nI i) = K T l1 l3 (lN (e27 nm)) (if kwm nm < 24 then nI (20 + kwm nm) else 1) := by
  intro j
  induction j with
  | zero => intro i h; rw [show 0 + 1 + e = e + 1 by omega, m_cut_h146, if_pos (show (24 : Int32) ≤ nI i from nI_le (a := 24) (by omega) (by omega)), show i = 24 by omega]
  | succ j ih =>
    intro i h
    have ho := KM_ok _ (KM_m i (by omega))
    rw [show j + 1 + 1 + e = (j + 1 + e) + 1 by omega, m_cut_h146, if_neg (show ¬ (24 : Int32) ≤ nI i from nI_ge (b := 24) (by omega) (by decide)), G_in (by omega) (by decide), nI_clamp (by omega), hk i (by omega), KM_e i (by omega), ← ih (i + 1) (by omega)]
    unfold m_cut_j173
    simp only [cmp0, n27 ho.1 hl ho.2 h8, nI_1, show (20 : Int32) = nI 20 from rfl, nI_add]
    have hle := kwm_le nm
    by_cases c : KM.getD i [] = nm
    · rw [if_pos c]
      have c1 : kwm nm < 24 := by
        rcases Nat.lt_or_ge (kwm nm) 24 with z | z
        · exact z
        · exact absurd c (kwm_n (by omega) i (by omega))
      have c2 : kwm nm = i := KM_d _ c1 i (by omega) ((kwm_y c1).trans c.symm)
      rw [if_pos (show kwm nm < i + 1 by omega), c2]
    · rw [if_neg c]
      have c2 : kwm nm ≠ i := fun z => c (by rw [← z]; exact kwm_y (by omega))
      by_cases c3 : kwm nm < i
      · rw [if_pos c3, if_pos (by omega)]
      · rw [if_neg c3, if_neg (by omega)]
theorem kw_1 : ∀ k, k < 24 → kM (kwd (KW.getD k [])) = if kwm (KW.getD k []) < 24 then 20 + kwm (KW.getD k []) else 1 := by decide +kernel
theorem kw_2 : ∀ k, k < 24 → kwd (KM.getD k []) < 24 := by decide +kernel
theorem kwl (nm : List Nat) : kM (kwd nm) = if kwm nm < 24 then 20 + kwm nm else 1 := by
  by_cases c : kwd nm < 24
  · have := kw_1 (kwd nm) c
    rw [kwd_y c] at this
    exact this
  · have h24 : kwd nm = 24 := by have := kwd_le nm; omega
    by_cases d : kwm nm < 24
    · have := kw_2 (kwm nm) d
      rw [kwm_y d] at this
      exact absurd this c
    · rw [if_neg d, h24]; rfl
