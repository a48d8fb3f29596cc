def XR (cb rb : Nat) (S0 S : ST) : Prop := g3 [2, 3, 5, 6, 7, 8, 9, 10] [1, 2, 3, 4, 5, 6, 7, 12] [0, 1] S0 S ∧ (∀ i, i < cb → S.2.1 1 i = S0.2.1 1 i) ∧ ∀ i, i < rb → S.2.1 2 i = S0.2.1 2 i ∧ S.2.1 3 i = S0.2.1 3 i ∧ S.2.1 4 i = S0.2.1 4 i ∧ S.2.1 5 i = S0.2.1 5 i ∧ S.2.1 6 i = S0.2.1 6 i ∧ S.2.1 7 i = S0.2.1 7 i ∧ S.2.2 0 i = S0.2.2 0 i
theorem XR_rfl (c r : Nat) (S : ST) : XR c r S S := ⟨g3_rfl _ _ _ _, fun _ _ => rfl, fun _ _ => ⟨rfl, rfl, rfl, rfl, rfl, rfl, rfl⟩⟩
theorem XR_tr {c r : Nat} {S T U : ST} (h : XR c r S T) (g : XR c r T U) : XR c r S U := ⟨g3_tr h.1 g.1, fun i hi => (g.2.1 i hi).trans (h.2.1 i hi), fun i hi => by
  obtain ⟨a1, a2, a3, a4, a5, a6, a7⟩ := h.2.2 i hi
  obtain ⟨b1, b2, b3, b4, b5, b6, b7⟩ := g.2.2 i hi
  exact ⟨b1.trans a1, b2.trans a2, b3.trans a3, b4.trans a4, b5.trans a5, b6.trans a6, b7.trans a7⟩⟩
theorem XR_le {c c' r r' : Nat} {S T : ST} (hc : c' ≤ c) (hr : r' ≤ r) (h : XR c r S T) : XR c' r' S T := ⟨h.1, fun i hi => h.2.1 i (by omega), fun i hi => h.2.2 i (by omega)⟩
theorem XR_E {a c r : Nat} {S T : ST} (hc : c ≤ a) (h : XE a S T) : XR c r S T := ⟨g3_sub (by decide) (by decide) (by decide) h.1, fun i hi => h.2 i (by omega), fun i _ => by rw [h.1.2.1 2 (by decide), h.1.2.1 3 (by decide), h.1.2.1 4 (by decide), h.1.2.1 5 (by decide), h.1.2.1 6 (by decide), h.1.2.1 7 (by decide), h.1.2.2 0 (by decide)]; exact ⟨rfl, rfl, rfl, rfl, rfl, rfl, rfl⟩⟩
def MR (d f r N : Nat) (T0 T : ST) : Prop := g3 [4, 5, 6, 7, 12, 13, 14] [6, 7, 8, 9, 10, 11, 12, 13, 14, 15, 16, 17, 18, 19, 20] [2] T0 T ∧ (∀ i, i < d → T.2.1 18 i = T0.2.1 18 i ∧ T.2.1 19 i = T0.2.1 19 i) ∧ (∀ i, i < f → T.2.1 12 i = T0.2.1 12 i ∧ T.2.1 13 i = T0.2.1 13 i ∧ T.2.1 14 i = T0.2.1 14 i ∧ T.2.1 15 i = T0.2.1 15 i ∧ T.2.1 16 i = T0.2.1 16 i ∧ T.2.1 17 i = T0.2.1 17 i) ∧ (∀ i, i < r → T.2.1 7 i = T0.2.1 7 i ∧ T.2.1 8 i = T0.2.1 8 i ∧ T.2.1 9 i = T0.2.1 9 i ∧ T.2.1 10 i = T0.2.1 10 i ∧ T.2.1 11 i = T0.2.1 11 i ∧ T.2.2 2 i = T0.2.2 2 i) ∧ ∀ i, i ≠ N → T.2.1 6 i = T0.2.1 6 i
theorem MR_rfl (d f r N : Nat) (T : ST) : MR d f r N T T := ⟨g3_rfl _ _ _ _, fun _ _ => ⟨rfl, rfl⟩, fun _ _ => ⟨rfl, rfl, rfl, rfl, rfl, rfl⟩, fun _ _ => ⟨rfl, rfl, rfl, rfl, rfl, rfl⟩, fun _ _ => rfl⟩
theorem MR_tr {d f r N : Nat} {S T U : ST} (h : MR d f r N S T) (g : MR d f r N T U) : MR d f r N S U := ⟨g3_tr h.1 g.1, fun i hi => ⟨(g.2.1 i hi).1.trans (h.2.1 i hi).1, (g.2.1 i hi).2.trans (h.2.1 i hi).2⟩, fun i hi => by
  obtain ⟨a1, a2, a3, a4, a5, a6⟩ := h.2.2.1 i hi
  obtain ⟨b1, b2, b3, b4, b5, b6⟩ := g.2.2.1 i hi
  exact ⟨b1.trans a1, b2.trans a2, b3.trans a3, b4.trans a4, b5.trans a5, b6.trans a6⟩, fun i hi => by
  obtain ⟨a1, a2, a3, a4, a5, a6⟩ := h.2.2.2.1 i hi
  obtain ⟨b1, b2, b3, b4, b5, b6⟩ := g.2.2.2.1 i hi
  exact ⟨b1.trans a1, b2.trans a2, b3.trans a3, b4.trans a4, b5.trans a5, b6.trans a6⟩, fun i hi => (g.2.2.2.2 i hi).trans (h.2.2.2.2 i hi)⟩
theorem MR_le {d d' f f' r r' N : Nat} {S T : ST} (hd : d' ≤ d) (hf : f' ≤ f) (hr : r' ≤ r) (h : MR d f r N S T) : MR d' f' r' N S T := ⟨h.1, fun i hi => h.2.1 i (by omega), fun i hi => h.2.2.1 i (by omega), fun i hi => h.2.2.2.1 i (by omega), h.2.2.2.2⟩
theorem MR_C {d f r N : Nat} {S T : ST} (h : MC d f S T) : MR d f r N S T := ⟨g3_sub (by decide) (by decide) (by decide) h.1, h.2.1, h.2.2, fun i _ => by rw [h.1.2.1 7 (by decide), h.1.2.1 8 (by decide), h.1.2.1 9 (by decide), h.1.2.1 10 (by decide), h.1.2.1 11 (by decide), h.1.2.2 2 (by decide)]; exact ⟨rfl, rfl, rfl, rfl, rfl, rfl⟩, fun i _ => by rw [h.1.2.1 6 (by decide)]⟩
/-- a row of the rules is written -/
theorem MR_7 {d f r N : Nat} (T : ST) {k row : Nat} (hk : k = 7 ∨ k = 8 ∨ k = 9 ∨ k = 10 ∨ k = 11) (hr : r ≤ row) (v : Int32) : MR d f r N T (sA T k (upd (T.2.1 k) row v)) := by
  have hg : g3 [4, 5, 6, 7, 12, 13, 14] [6, 7, 8, 9, 10, 11, 12, 13, 14, 15, 16, 17, 18, 19, 20] [2] T (sA T k (upd (T.2.1 k) row v)) := g3_A _ _ (by rcases hk with q | q | q | q | q <;> rw [q] <;> decide)
  have ho : ∀ j, j ≠ k → (sA T k (upd (T.2.1 k) row v)).2.1 j = T.2.1 j := fun j hj => va_o _ _ hj
  have hs : ∀ j i, i < r → (sA T k (upd (T.2.1 k) row v)).2.1 j i = T.2.1 j i := fun j i hi => by
    by_cases q : j = k
    · rw [q]; show va_up T.2.1 k (upd (T.2.1 k) row v) k i = _
      unfold va_up
      rw [if_pos rfl]
      exact pk_un (by omega)
    · rw [ho j q]
  refine ⟨hg, fun i _ => ⟨by rw [ho 18 (by omega)], by rw [ho 19 (by omega)]⟩, fun i _ => by rw [ho 12 (by omega), ho 13 (by omega), ho 14 (by omega), ho 15 (by omega), ho 16 (by omega), ho 17 (by omega)]; exact ⟨rfl, rfl, rfl, rfl, rfl, rfl⟩, fun i hi => ⟨hs 7 i hi, hs 8 i hi, hs 9 i hi, hs 10 i hi, hs 11 i hi, rfl⟩, fun i _ => by rw [ho 6 (by omega)]⟩
theorem MR_L {d f r N : Nat} (T : ST) {row : Nat} (hr : r ≤ row) (v : Int64) : MR d f r N T (sL T 2 (vp_updL (T.2.2 2) row v)) := ⟨g3_L _ _ (by decide), fun _ _ => ⟨rfl, rfl⟩, fun _ _ => ⟨rfl, rfl, rfl, rfl, rfl, rfl⟩, fun i hi => ⟨rfl, rfl, rfl, rfl, rfl, pk_uLn (by omega)⟩, fun _ _ => rfl⟩
theorem MR_g {d f r N : Nat} {I A L : List Nat} {S T : ST} (hI : ∀ k, k ∈ I → k ∈ [4, 5, 6, 7, 13, 14]) (hA : ∀ k, k ∈ A → k ∈ [20]) (hL : ∀ k, k ∈ L → k ∈ ([] : List Nat)) (h : g3 I A L S T) : MR d f r N S T := MR_C (MC_E (ME_g hI hA hL h))
/-! behind a fault -/
theorem cnd_d {S : ST} (h : ¬ S.1 9 = 0) : x2_parseCondition S = some S := by
  obtain ⟨e, he⟩ := FU_s 1 (by decide)
  unfold x2_parseCondition
  rw [he, show 1 + e = e + 1 by omega, x2_parseCondition_h4, if_neg (show ¬ (1 : Int32) = 0 from by decide), if_neg h]
theorem j112_d {S : ST} (h : ¬ S.1 9 = 0) : x2_parseRule_j112 S = some S := by unfold x2_parseRule_j112; rw [acc_d h, cal_s, if_pos rfl]
theorem j102_d {S : ST} (h : ¬ S.1 9 = 0) : x2_parseRule_j102 S = some S := by unfold x2_parseRule_j102; rw [acc_d h, cal_s, cnd_d h, calV_s, j112_d h]
theorem xj85_d {S : ST} (h : ¬ S.1 9 = 0) (l : Int32) : x2_parseRule_j85 S l = some S := by
  unfold x2_parseRule_j85
  rw [j112_d h, j102_d h, ite_self, ite_self, ite_self]
theorem begX {S : ST} {r : Nat} (hr : r < 144) (e : S.1 3 = nI r) : x7_beginCondition S = some (sA S 6 (upd (S.2.1 6) r (S.1 2))) := by
  unfold x7_beginCondition
  rw [e, if_neg (nI_pos (by omega)), if_neg (show ¬ (144 : Int32) ≤ nI r from nI_ge (b := 144) hr (by decide)), G_in hr (by decide), nI_clamp (by omega)]
def opS (S : ST) (r : Nat) (s : Int32) (m : Int64) (i : Int32) : ST := sA (sA (sA (sA (sL (sA S 2 (upd (S.2.1 2) r s)) 0 (vp_updL (S.2.2 0) r m)) 3 (upd (S.2.1 3) r (S.1 4))) 4 (upd (S.2.1 4) r i)) 5 (upd (S.2.1 5) r (S.1 2))) 6 (upd (S.2.1 6) r (S.1 2))
theorem opX {S : ST} {r : Nat} (hr : r < 144) (e : S.1 3 = nI r) (s : Int32) (m : Int64) (i : Int32) : x7_openRule S s m i = some (opS S r s m i) := by
  have hs : ∀ (U : ST), U.1 3 = nI r → inb (U.1 3) 144 = true ∧ Int32.toNatClampNeg (U.1 3) = r := fun U h => by rw [h]; exact ⟨inb_nI hr (by decide), nI_clamp (by omega)⟩
  unfold x7_openRule opS
  rw [e, if_neg (nI_pos (by omega)), if_pos (show nI r < 144 from nI_lt (b := 144) hr (by decide)), G_in hr (by decide), nI_clamp (by omega)]
  dsimp only
  rw [G_t (hs (sA S 2 _) e).1, (hs (sA S 2 _) e).2, G_t (hs (sL (sA S 2 _) 0 _) e).1, (hs (sL (sA S 2 _) 0 _) e).2, G_t (hs (sA (sL (sA S 2 _) 0 _) 3 _) e).1, (hs (sA (sL (sA S 2 _) 0 _) 3 _) e).2, G_t (hs (sA (sA (sL (sA S 2 _) 0 _) 3 _) 4 _) e).1, (hs (sA (sA (sL (sA S 2 _) 0 _) 3 _) 4 _) e).2, G_t (hs (sA (sA (sA (sL (sA S 2 _) 0 _) 3 _) 4 _) 5 _) e).1, (hs (sA (sA (sA (sL (sA S 2 _) 0 _) 3 _) 4 _) 5 _) e).2]
  rfl
theorem opS_g (S : ST) (r : Nat) (s : Int32) (m : Int64) (i : Int32) : g3 [] [2, 3, 4, 5, 6] [0] S (opS S r s m i) := g3_tr (g3_A _ _ (by decide)) (g3_tr (g3_L _ _ (by decide)) (g3_tr (g3_A _ _ (by decide)) (g3_tr (g3_A _ _ (by decide)) (g3_tr (g3_A _ _ (by decide)) (g3_A _ _ (by decide))))))
theorem opS_X {c rb : Nat} (S : ST) {r : Nat} (hr : rb ≤ r) (s : Int32) (m : Int64) (i : Int32) : XR c rb S (opS S r s m i) := ⟨g3_sub (by decide) (by decide) (by decide) (opS_g S r s m i), fun _ _ => rfl, fun j hj => ⟨pk_un (by omega), pk_un (by omega), pk_un (by omega), pk_un (by omega), pk_un (by omega), rfl, pk_uLn (by omega)⟩⟩
/-- the class's rest of a rule behind a fault -/
theorem xrt_d {c rb r f q : Nat} {S : ST} (hr : rb ≤ r) (hr4 : r < 144) (e3 : S.1 3 = nI r) (ho : okD f q) (hD : dX f q S) (v7 : Int32) : ∃ S', (if v7 = 0 then (cal (x2_accept S 1) fun r70 S70 => calV (x2_parseExpression S70) fun S75 => calV (x7_beginCondition S75) fun S82 => x2_parseRule_j85 S82 v7) else (x2_parseRule_j85 S v7)) = some S' ∧ XR c rb S S' ∧ dX f q S' := by
  by_cases h : v7 = 0
  · obtain ⟨e, he⟩ := FU_s 1 (by decide)
    have hx : x2_parseExpression S = some (sI S 5 0) := by
      unfold x2_parseExpression
      rw [he, show 1 + e = e + 1 by omega, x2_parseExpression_h11, if_neg (show ¬ (1 : Int32) = 0 from by decide), if_neg (show ¬ (sI S 5 0).1 9 = 0 from dX0 ho hD)]
      rfl
    have hb := begX (S := sI S 5 0) hr4 e3
    have hD2 : dX f q (sA (sI S 5 0) 6 (upd ((sI S 5 0).2.1 6) r ((sI S 5 0).1 2))) := hD
    rw [if_pos h, acc_d (dX0 ho hD), cal_s, hx, calV_s, hb, calV_s, xj85_d (dX0 ho hD2)]
    exact ⟨_, rfl, ⟨g3_tr (g3_I _ _ (by decide)) (g3_A _ _ (by decide)), fun _ _ => rfl, fun j hj => ⟨rfl, rfl, rfl, rfl, pk_un (by omega), rfl, rfl⟩⟩, hD2⟩
  · rw [if_neg h, xj85_d (dX0 ho hD)]
    exact ⟨S, rfl, XR_rfl _ _ _, hD⟩
theorem mj247_d {f q row : Nat} {T : ST} (hr : row < 168) (ho : okD f q) (h : dM f q T) (s0 : Int32) : m_tellRule_j247 T (nI row) s0 = some (sA T 11 (upd (T.2.1 11) row (T.1 12))) := by
  obtain ⟨e, he⟩ := FU_s 1 (by decide)
  have h' : dM f q (sA T 11 (upd (T.2.1 11) row (T.1 12))) := h
  have h309 : m_tellRule_j309 T (nI row) = some (sA T 11 (upd (T.2.1 11) row (T.1 12))) := by
    unfold m_tellRule_j309
    rw [mus_d ho h, calV_s, G_in hr (by decide), nI_clamp (by omega)]
    dsimp only
    rw [if_neg (dM0 ho h')]
  unfold m_tellRule_j247
  rw [he, show 1 + e = e + 1 by omega, m_tellRule_h250, if_neg (dM0 ho h), h309, ite_self]
theorem mj218_d {d f' r N f q row : Nat} {T : ST} (hrr : r ≤ row) (hr : row < 168) (ho : okD f q) (h : dM f q T) (l2 s0 : Int32) : ∃ T', m_tellRule_j218 T l2 (nI row) s0 = some T' ∧ MR d f' r N T T' ∧ dM f q T' := by
  unfold m_tellRule_j218 m_tellRule_j238
  obtain ⟨T1, n1, n2, n3⟩ := nxt_d ho h
  rw [mus_d ho h, calV_s, n1, calV_s, mj247_d hr ho h, mj247_d hr ho n3]
  have A : ∃ T', some (sA T 11 (upd (T.2.1 11) row (T.1 12))) = some T' ∧ MR d f' r N T T' ∧ dM f q T' := ⟨_, rfl, MR_7 T (by simp) hrr _, h⟩
  have B : ∃ T', some (sA T1 11 (upd (T1.2.1 11) row (T1.1 12))) = some T' ∧ MR d f' r N T T' ∧ dM f q T' := ⟨_, rfl, MR_tr (MR_g (by decide) (by decide) (by decide) n2) (MR_7 T1 (by simp) hrr _), n3⟩
  repeat' split
  all_goals first | exact A | exact B
theorem mj179_d {d f' r N f q row : Nat} {T : ST} (hrr : r ≤ row) (hr : row < 168) (ho : okD f q) (h : dM f q T) (l2 : Int32) : ∃ T', m_tellRule_j179 T l2 (nI row) = some T' ∧ MR d f' r N T T' ∧ dM f q T' := by
  unfold m_tellRule_j179 m_tellRule_j217
  rw [G_in hr (by decide), G_in hr (by decide), nI_clamp (by omega)]
  dsimp only
  have h' : dM f q (sA (sA T 9 (upd (T.2.1 9) row (T.1 13))) 10 (upd ((sA T 9 (upd (T.2.1 9) row (T.1 13))).2.1 10) row ((sA T 9 (upd (T.2.1 9) row (T.1 13))).1 12))) := h
  rw [is_d (dM0 ho h'), cal_s, if_pos rfl]
  obtain ⟨T', g1, g2, g3'⟩ := mj218_d (d := d) (f' := f') (N := N) hrr hr ho h' l2 0
  exact ⟨T', g1, MR_tr (MR_tr (MR_7 T (by simp) hrr _) (MR_7 _ (by simp) hrr _)) g2, g3'⟩
noncomputable def mA8 (S152 : ST) (v123 l2 : Int32) : Option ST := G (inb v123 168) <|
  let S164 := sA S152 8 (upd (S152.2.1 8) (Int32.toNatClampNeg v123) (S152.1 13))
  if l2 = 0 then (calV (m_must S164 22) fun S172 =>
  calV (m_expression S172) fun S176 =>
  m_tellRule_j179 S176 l2 v123) else (m_tellRule_j179 S164 l2 v123)
theorem mA8_d {d f' r N f q row : Nat} {T : ST} (hrr : r ≤ row) (hr : row < 168) (ho : okD f q) (h : dM f q T) (l2 : Int32) : ∃ T', mA8 T (nI row) l2 = some T' ∧ MR d f' r N T T' ∧ dM f q T' := by
  unfold mA8
  rw [G_in hr (by decide), nI_clamp (by omega)]
  dsimp only
  have h' : dM f q (sA T 8 (upd (T.2.1 8) row (T.1 13))) := h
  obtain ⟨e, he⟩ := FU_s 1 (by decide)
  have hx : m_expression (sA T 8 (upd (T.2.1 8) row (T.1 13))) = some (sI (sA T 8 (upd (T.2.1 8) row (T.1 13))) 14 0) := by
    unfold m_expression
    rw [he, show 1 + e = e + 1 by omega, m_expression_h12, if_neg (show ¬ (1 : Int32) = 0 from by decide), if_neg (show ¬ (sI (sA T 8 (upd (T.2.1 8) row (T.1 13))) 14 0).1 6 = 0 from dM0 ho h)]
  have h'' : dM f q (sI (sA T 8 (upd (T.2.1 8) row (T.1 13))) 14 0) := h
  rw [mus_d ho h', calV_s, hx, calV_s]
  by_cases c : l2 = 0
  · rw [if_pos c]
    obtain ⟨T', g1, g2, g3'⟩ := mj179_d (d := d) (f' := f') (N := N) hrr hr ho h'' l2
    exact ⟨T', g1, MR_tr (MR_7 T (by simp) hrr _) (MR_tr (MR_g (I := [14]) (A := []) (L := []) (by decide) (by decide) (by decide) (g3_I _ _ (by decide))) g2), g3'⟩
  · rw [if_neg c]
    obtain ⟨T', g1, g2, g3'⟩ := mj179_d (d := d) (f' := f') (N := N) hrr hr ho h' l2
    exact ⟨T', g1, MR_tr (MR_7 T (by simp) hrr _) g2, g3'⟩
theorem sub6 {k : Nat} (hk : k < 100) : (nI k - 6 < 0 ↔ k < 6) ∧ (nI k - 6 ≤ 5 ↔ k ≤ 11) := by
  have h : (nI k - 6).toInt = (k : Int) - 6 := pk_sub_toInt (b := 6) (by omega) (by decide)
  rw [Int32.lt_iff_toInt_lt, Int32.le_iff_toInt_le, h]
  have h0 : (0 : Int32).toInt = 0 := rfl
  have h3 : (5 : Int32).toInt = 5 := rfl
  omega
theorem km_srt : ∀ k, k < 39 → (7 ≤ k ∧ k ≤ 10 → kM k = k + 17) ∧ (¬ (6 ≤ k ∧ k ≤ 11) → kM k < 24 ∨ 27 < kM k) := by decide +kernel
/-- the reference's first look at a rule -/
theorem tel0 {z : TZ} {T : ST} {p : Nat} (hz : okZ z) (hM : lvM z T p) : m_tellRule T = if 6 ≤ zK z p ∧ zK z p ≤ 11 then m_tellRule_j65 T (nI (zK z p - 6)) else m_tellRule_j65 T (-1) := by
  have h38 := hz.2.2.1 p
  have h4 := lvm_4 hz hM
  have hkl := kM_lt (zK z p) (by omega)
  obtain ⟨k1, k2⟩ := km_srt (zK z p) (by omega)
  unfold m_tellRule m_tellRule_j64
  rw [hM.2.2.1, G_in (by omega) (by decide), nI_clamp (by omega), (hM.1 p hM.2.1).1]
  dsimp only
  rw [show (28 : Int32) = nI (kM 11) from rfl, show (21 : Int32) = nI (kM 6) from rfl, is_l hz hM (by decide), chkS, is_l hz hM (by decide), chkS, if_pos hM.2.2.2]
  by_cases c11 : zK z p = 11
  · rw [decide_eq_true c11, if_pos rfl, c11]; rfl
  · rw [decide_eq_false c11, if_neg (show ¬ (false = true) from by decide)]
    by_cases c6 : zK z p = 6
    · rw [decide_eq_true c6, if_pos rfl, c6]; rfl
    · rw [decide_eq_false c6, if_neg (show ¬ (false = true) from by decide)]
      by_cases c7 : 7 ≤ zK z p ∧ zK z p ≤ 10
      · have hk := k1 c7
        rw [hk, if_neg (show ¬ nI (zK z p + 17) < 24 from nI_nlt (b := 24) (by omega) (by omega)), if_neg (show ¬ (27 : Int32) < nI (zK z p + 17) from nI_nlt (a := 27) (by omega) (by decide)), if_pos (by omega), show (24 : Int32) = nI 24 from rfl, pk_sub (by omega), nI_1, show zK z p + 17 - 24 + 1 = zK z p - 6 by omega]
      · have hn : ¬ (6 ≤ zK z p ∧ zK z p ≤ 11) := by omega
        rw [if_neg hn]
        rcases k2 hn with q | q
        · rw [if_pos (show nI (kM (zK z p)) < 24 from nI_lt (b := 24) q (by decide))]
        · by_cases w : nI (kM (zK z p)) < 24
          · rw [if_pos w]
          · rw [if_neg w, if_pos (show (27 : Int32) < nI (kM (zK z p)) from nI_lt (a := 27) q (by omega))]
