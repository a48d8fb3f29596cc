noncomputable def qN (S0 : ST) (mk : Nat → Bool) (m d : Nat) (f : Nat) : Bool := decide ((LF S0 m d f).1 = -2) && (decide ((LF S0 m d f).2.1 = 0) && (!decide ((LF S0 m d f).2.2 = 0) && mk (LF S0 m d f).2.2.toNatClampNeg))
def liB (T : ST) (d : Nat) (f : Nat) : Bool := decide (T.2.1 24 f = 0) && !decide (nI d < T.2.1 25 f)
theorem gth_x {S : ST} {mk : Nat → Bool} (h : MK S 25 mk) {w : Int32} (hw : rng w 1000) : x5_gathered S w = some (bit (!decide (w = 0) && mk w.toNatClampNeg), S) := by
  obtain ⟨j, hj, rfl⟩ := hw
  by_cases c : j = 0
  · subst c
    rw [decide_eq_true (show nI 0 = 0 from rfl)]
    unfold x5_gathered
    rw [show x11_isWord (nI 0) = some 0 from by rw [bW]; rfl, cal0_s, if_pos rfl]
    rfl
  · rw [gath_eq h (by omega) (by omega), decide_eq_false (show ¬ nI j = 0 from fun z => c ((nI_eq (b := 0) (by omega) (by decide)).mp z)), nI_clamp (by omega)]
    rfl
theorem ln_h18 {S0 T0 : ST} {b : BK} {n m d : Nat} (h : CT S0 T0 b n) (hm : m ≤ n) (hd : d < 100) (mk : Nat → Bool) (e : Nat) : ∀ j i, i + j = m → ∀ S, pX S = pX S0 → MK S 25 mk → S.1 19 = nI (srt (kI T0) (fun f => liB T0 d f && qN S0 mk m d f) i).length → rlA (S.2.1 24) (srt (kI T0) (fun f => liB T0 d f && qN S0 mk m d f) i) → ∃ S', x1_listNaming_h18 (j + 1 + e) S (nI d) (nI m) (nI i) = some S' ∧ pX S' = pX S0 ∧ S'.1 19 = nI (srt (kI T0) (fun f => liB T0 d f && qN S0 mk m d f) m).length ∧ rlA (S'.2.1 24) (srt (kI T0) (fun f => liB T0 d f && qN S0 mk m d f) m) := by
  have hn := h.2.2.2.2.1
  intro j
  induction j with
  | zero =>
    intro i hi S hp hk h1 h2
    have : i = m := by omega
    subst this
    refine ⟨S, ?_, hp, h1, h2⟩
    rw [show 0 + 1 + e = e + 1 by omega, x1_listNaming_h18, if_pos (nI_le (by omega) (by omega))]
  | succ j ih =>
    intro i hi S hp hk h1 h2
    have ih' := ih (i + 1) (by omega)
    have hR := factR_2 hp rfl (h.2.2.2.2.2 i (by omega))
    have hlen := srt_len (kI T0) (fun f => liB T0 d f && qN S0 mk m d f) i
    rw [show j + 1 + 1 + e = (j + 1 + e) + 1 by omega, x1_listNaming_h18, if_neg (nI_ge (by omega) (by omega)), G_in (by omega) (by decide), G_in (by omega) (by decide), nI_clamp (by omega), bdec (FK_4 hR.1)]
    unfold x1_listNaming_j108
    rw [nI_1]
    by_cases c : T0.2.1 24 i = 0
    · rw [if_pos (decide_eq_true c), (hR.2.1 c).1]
      by_cases c2 : nI d < T0.2.1 25 i
      · rw [if_pos c2]
        have es : srt (kI T0) (fun f => liB T0 d f && qN S0 mk m d f) (i + 1) = srt (kI T0) (fun f => liB T0 d f && qN S0 mk m d f) i := by
          rw [srt, if_neg (by unfold liB; rw [decide_eq_true c2]; simp)]
        exact ih' S hp hk (by rw [es]; exact h1) (by rw [es]; exact h2)
      · have el : liB T0 d i = true := by unfold liB; rw [decide_eq_true c, decide_eq_false c2]; rfl
        rw [if_neg c2]
        obtain ⟨S1, p1, p2, p3, p4, p5⟩ := prtX h hm (show i < m by omega) c hd hp
        obtain ⟨-, -, -, -, -, -, -, p7⟩ := prtM h hm (show i < m by omega) c hd rfl h.2.2.2.1
        have hp1 : pX S1 = pX S0 := (pX_x p2).trans hp
        have hk1 : MK S1 25 mk := fun w hw => by rw [p2.2.1 25 (by decide)]; exact hk w hw
        have skip : qN S0 mk m d i = false → ∃ S', x1_listNaming_h18 (j + 1 + e) S1 (nI d) (nI m) (nI (i + 1)) = some S' ∧ pX S' = pX S0 ∧ S'.1 19 = nI (srt (kI T0) (fun f => liB T0 d f && qN S0 mk m d f) m).length ∧ rlA (S'.2.1 24) (srt (kI T0) (fun f => liB T0 d f && qN S0 mk m d f) m) := fun q => by
          have es : srt (kI T0) (fun f => liB T0 d f && qN S0 mk m d f) (i + 1) = srt (kI T0) (fun f => liB T0 d f && qN S0 mk m d f) i := by
            rw [srt, if_neg (by rw [q]; simp)]
          exact ih' S1 hp1 hk1 (by rw [es, p2.1 19 (by decide)]; exact h1) (by rw [es, p2.2.1 24 (by decide)]; exact h2)
        rw [p1, calV_s, p3, p4]
        by_cases c3 : (LF S0 m d i).1 = -2
        · rw [if_pos c3]
          by_cases c4 : (LF S0 m d i).2.1 = 0
          · rw [if_pos c4, p5, gth_x hk1 p7, chkS]
            cases c5 : (!decide ((LF S0 m d i).2.2 = 0) && mk (LF S0 m d i).2.2.toNatClampNeg)
            · simp only [Bool.false_eq_true, if_false]
              exact skip (by unfold qN; rw [c5]; simp)
            · simp only [if_true]
              have es : srt (kI T0) (fun f => liB T0 d f && qN S0 mk m d f) (i + 1) = insL (kI T0) i (srt (kI T0) (fun f => liB T0 d f && qN S0 mk m d f) i) := by
                rw [srt, if_pos (by rw [el]; unfold qN; rw [c5, decide_eq_true c3, decide_eq_true c4]; rfl)]
              obtain ⟨S2, g1, g2, g3, g4⟩ := insX hn h.2.2.2.2.2 (show i < n by omega) c (l := srt (kI T0) (fun f => liB T0 d f && qN S0 mk m d f) i) (fun a ha => by
                obtain ⟨a1, a2⟩ := srt_mem ha
                refine ⟨by omega, ?_⟩
                rw [Bool.and_eq_true] at a2
                have := a2.1
                unfold liB at this
                rw [Bool.and_eq_true] at this
                exact of_decide_eq_true this.1) (by omega) hp1 (by rw [p2.2.1 24 (by decide)]; exact h2) (by rw [p2.1 19 (by decide)]; exact h1)
              rw [g1, calV_s]
              exact ih' S2 ((pX_fr (by decide) (by decide) g2).trans hp1) (fun w hw => by rw [g2.2.1 25 (by decide)]; exact hk1 w hw) (by rw [es, insL_len]; exact g3) (by rw [es]; exact g4)
          · rw [if_neg c4]
            exact skip (by unfold qN; rw [decide_eq_false c4]; simp)
        · rw [if_neg c3]
          exact skip (by unfold qN; rw [decide_eq_false c3]; simp)
    · rw [if_neg (by simpa using c)]
      have es : srt (kI T0) (fun f => liB T0 d f && qN S0 mk m d f) (i + 1) = srt (kI T0) (fun f => liB T0 d f && qN S0 mk m d f) i := by
        rw [srt, if_neg (by unfold liB; rw [decide_eq_false c]; simp)]
      exact ih' S hp hk (by rw [es]; exact h1) (by rw [es]; exact h2)
theorem nm_h34 {S0 T0 : ST} {b : BK} {n m d : Nat} (h : CT S0 T0 b n) (hm : m ≤ n) (hd : d < 100) (mk : Nat → Bool) (k l6 : Int32) (K : ST → Int32 → Int32 → Int32 → Int32 → Int32 → Option (Int32 × ST)) (e : Nat) : ∀ (s : List Nat) (i c : Nat) (w : Int32) (T : ST), sgN (T.2.1 32) i s → T.1 24 = nI (i + s.length) → i + s.length ≤ 180 → T.1 25 = nI c → (∀ x, x ∈ s → x < m ∧ T0.2.1 24 x = 0) → p2 T = p2 T0 → CM T b → MK T 40 mk → ∃ T', m_namesOf_h34 K (s.length + 1 + e) T (nI d) (nI m) k w l6 (nI i) = K T' (nI d) (nI m) k (scn k (s.filter (qN S0 mk m d)) (w, c)).1 l6 ∧ T'.1 25 = nI (scn k (s.filter (qN S0 mk m d)) (w, c)).2 ∧ p2 T' = p2 T0 ∧ CM T' b ∧ MK T' 40 mk := by
  intro s
  induction s with
  | nil =>
    intro i c w T h1 h2 h3 h4 h5 h6 h7 h8
    refine ⟨T, ?_, h4, h6, h7, h8⟩
    rw [show ([] : List Nat).length + 1 + e = e + 1 by simp; omega, m_namesOf_h34, h2, if_pos (nI_le (by simp) (by simp at h3; omega))]
    rfl
  | cons x r ih =>
    intro i c w T h1 h2 h3 h4 h5 h6 h7 h8
    rw [List.length_cons] at h2 h3
    obtain ⟨x1, x2⟩ := h5 x (by simp)
    obtain ⟨T1, p1, p2', p3, p4, p5, p6, p7⟩ := prtM h hm x1 x2 hd h6 h7
    have hp1 : p2 T1 = p2 T0 := (p2_x p2').trans h6
    rw [List.length_cons, show r.length + 1 + 1 + e = (r.length + 1 + e) + 1 by omega, m_namesOf_h34, h2, if_neg (nI_ge (by omega) (by omega)), G_in (by omega) (by decide), nI_clamp (by omega), h1.1, p1, calV_s, List.filter_cons]
    have e25 : T1.1 25 = nI c := by rw [p2'.1 25 (by decide)]; exact h4
    have e24 : T1.1 24 = nI (i + 1 + r.length) := by rw [p2'.1 24 (by decide), h2]; congr 1; omega
    have e32 : T1.2.1 32 = T.2.1 32 := p2'.2.1 32 (by decide)
    have hk1 : MK T1 40 mk := fun w hw => by rw [p2'.2.1 40 (by decide)]; exact h8 w hw
    unfold m_namesOf_j112 m_namesOf_j122
    have skip : ¬ qN S0 mk m d x = true → ∃ T', m_namesOf_h34 K (r.length + 1 + e) T1 (nI d) (nI m) k w l6 (nI i + 1) = K T' (nI d) (nI m) k (scn k (if qN S0 mk m d x = true then x :: r.filter (qN S0 mk m d) else r.filter (qN S0 mk m d)) (w, c)).1 l6 ∧ T'.1 25 = nI (scn k (if qN S0 mk m d x = true then x :: r.filter (qN S0 mk m d) else r.filter (qN S0 mk m d)) (w, c)).2 ∧ p2 T' = p2 T0 ∧ CM T' b ∧ MK T' 40 mk := fun q => by
      rw [if_neg q, nI_1]
      exact ih (i + 1) c w T1 (by rw [e32]; exact h1.2) e24 (by omega) e25 (fun y hy => h5 y (by simp [hy])) hp1 p3 hk1
    by_cases c1 : T1.1 23 = -1
    · rw [if_pos c1, p5, p6]
      by_cases c2 : (LF S0 m d x).2.1 = 0
      · rw [if_pos c2]
        by_cases c3 : (LF S0 m d x).2.2 = 0
        · rw [if_pos c3]
          exact skip (by unfold qN; rw [decide_eq_true c3]; simp)
        · obtain ⟨z, hz, ez⟩ := p7
          rw [if_neg c3, ez, G_in hz (by decide), nI_clamp (by omega), hk1 z hz]
          cases c4 : mk z
          · rw [if_pos (show bit false = 0 from rfl)]
            exact skip (by unfold qN; rw [ez, nI_clamp (by omega), c4]; simp)
          · have q : qN S0 mk m d x = true := by
              unfold qN
              rw [decide_eq_true (p4.mp c1), decide_eq_true c2, decide_eq_false c3, ez, nI_clamp (by omega), c4]; rfl
            rw [if_neg (show ¬ bit true = 0 from by decide), if_pos q, G_in (by omega) (by decide), e25, e32, h1.1, nI_1, scn]
            have ih' := fun w => ih (i + 1) (c + 1) w (sI T1 25 (nI (c + 1))) (by show sgN (T1.2.1 32) _ _; rw [e32]; exact h1.2) e24 (by omega) rfl (fun y hy => h5 y (by simp [hy])) hp1 (CM_f (I := [25]) (A := []) (by decide) (by decide) (by decide) (fr_I _ _ (by decide)) p3) hk1
            simp only [nI_1]
            by_cases c2 : nI c = k
            · rw [if_pos c2]; simp only [c2, if_true]; exact ih' (nI x)
            · rw [if_neg c2]; simp only [c2, if_false]; exact ih' w
      · rw [if_neg c2]
        exact skip (by unfold qN; rw [decide_eq_false c2]; simp)
    · rw [if_neg c1]
      exact skip (by unfold qN; rw [decide_eq_false (fun z => c1 (p4.mpr z))]; simp)
def liL (T : ST) (D : Nat) (f : Nat) : Bool := decide (T.2.1 24 f = 0) && decide (T.2.1 25 f < nI D)
theorem srt_D {S0 T0 : ST} {m D : Nat} (hm : m ≤ 180) (hD : D < 100) (hf : ∀ k, k < m → factR S0 T0 k) : (srt (kI T0) (liL T0 (D + 1)) m).reverse = (srt (kI T0) (liL T0 D) m).reverse ++ (srt (kI T0) (liD T0 D) m).reverse := by
  rw [← List.reverse_append, ← srt_split (fun x y hx hy => by
    unfold liD at hx; unfold liL at hy
    rw [Bool.and_eq_true] at hx hy
    unfold kI
    refine kap_l ?_
    rw [of_decide_eq_true hx.2]
    exact of_decide_eq_true hy.2)]
  congr 1
  refine srt_congr (fun f hf2 => ?_)
  unfold liL liD
  by_cases c : T0.2.1 24 f = 0
  · obtain ⟨-, ⟨z, hz, ez⟩, -⟩ := (hf f hf2).2.1 c
    rw [decide_eq_true c, ez, Bool.true_and, Bool.true_and, Bool.true_and]
    rw [show decide (nI z < nI (D + 1)) = decide (z < D + 1) from by simp only [nI_ltI (show z < 2 ^ 31 by omega) (show D + 1 < 2 ^ 31 by omega)], show decide (nI z = nI D) = decide (z = D) from by simp only [nI_eq (show z < 2 ^ 31 by omega) (show D < 2 ^ 31 by omega)], show decide (nI z < nI D) = decide (z < D) from by simp only [nI_ltI (show z < 2 ^ 31 by omega) (show D < 2 ^ 31 by omega)]]
    by_cases a : z = D
    · rw [decide_eq_true a, decide_eq_true (by omega)]; rfl
    · by_cases a2 : z < D
      · rw [decide_eq_true a2, decide_eq_true (by omega)]; simp
      · rw [decide_eq_false a, decide_eq_false a2, decide_eq_false (by omega)]; rfl
  · rw [decide_eq_false c]; rfl
theorem nm_h18 {S0 T0 : ST} {b : BK} {n m d : Nat} (h : CT S0 T0 b n) (hm : m ≤ n) (hd : d < 100) (mk : Nat → Bool) (k : Int32) (e : Nat) : ∀ j D, D + j = d + 1 → ∀ T, T.1 25 = nI (scn k ((srt (kI T0) (liL T0 D) m).reverse.filter (qN S0 mk m d)) (-1, 0)).2 → p2 T = p2 T0 → CM T b → MK T 40 mk → ∃ T', m_namesOf_h18 (j + 1 + e) T (nI d) (nI m) k (scn k ((srt (kI T0) (liL T0 D) m).reverse.filter (qN S0 mk m d)) (-1, 0)).1 (nI D) = some ((scn k ((srt (kI T0) (liL T0 (d + 1)) m).reverse.filter (qN S0 mk m d)) (-1, 0)).1, T') ∧ T'.1 25 = nI (scn k ((srt (kI T0) (liL T0 (d + 1)) m).reverse.filter (qN S0 mk m d)) (-1, 0)).2 ∧ p2 T' = p2 T0 ∧ CM T' b := by
  have hn := h.2.2.2.2.1
  intro j
  induction j with
  | zero =>
    intro D hD T h1 h2 h3 h4
    have : D = d + 1 := by omega
    subst this
    refine ⟨T, ?_, h1, h2, h3⟩
    rw [show 0 + 1 + e = e + 1 by omega, m_namesOf_h18, if_pos (nI_lt (by omega) (by omega))]
  | succ j ih =>
    intro D hD T h1 h2 h3 h4
    obtain ⟨T1, g1, g2, g3, g4⟩ := st_m (T0 := T0) (T := T) (D := D) (show m ≤ 180 by omega) h2
    have hlen := srt_len (kI T0) (liD T0 D) m
    obtain ⟨e', he⟩ := FU_s ((srt (kI T0) (liD T0 D) m).reverse.length + 1) (by rw [List.length_reverse]; omega)
    rw [show j + 1 + 1 + e = (j + 1 + e) + 1 by omega, m_namesOf_h18, if_neg (nI_nlt (by omega) (by omega)), g1, calV_s, he]
    obtain ⟨T', k1, k2, k3, k4, k5⟩ := nm_h34 h hm hd mk k (nI D) (m_namesOf_j128 (m_namesOf_h18 (j + 1 + e))) e' (srt (kI T0) (liD T0 D) m).reverse 0 _ (scn k ((srt (kI T0) (liL T0 D) m).reverse.filter (qN S0 mk m d)) (-1, 0)).1 T1 (rlA_sg g4) (by rw [List.length_reverse, Nat.zero_add]; exact g3) (by rw [List.length_reverse]; omega) ((g2.1 25 (by decide)).trans h1) (fun x hx => by
      obtain ⟨a1, a2⟩ := srt_mem (List.mem_reverse.mp hx)
      unfold liD at a2
      rw [Bool.and_eq_true] at a2
      exact ⟨a1, of_decide_eq_true a2.1⟩) ((p2_fr (by decide) (by decide) g2).trans h2) (CM_f (I := [24]) (A := [32]) (by decide) (by decide) (by decide) g2 h3) (fun w hw => by rw [g2.2.1 40 (by decide)]; exact h4 w hw)
    have hs : scn k ((srt (kI T0) (liD T0 D) m).reverse.filter (qN S0 mk m d)) ((scn k ((srt (kI T0) (liL T0 D) m).reverse.filter (qN S0 mk m d)) (-1, 0)).1, (scn k ((srt (kI T0) (liL T0 D) m).reverse.filter (qN S0 mk m d)) (-1, 0)).2) = scn k ((srt (kI T0) (liL T0 (D + 1)) m).reverse.filter (qN S0 mk m d)) (-1, 0) := by
      rw [srt_D (show m ≤ 180 by omega) (show D < 100 by omega) (fun f hf => h.2.2.2.2.2 f (by omega)), List.filter_append, scn_app]
    rw [hs] at k1 k2
    show ∃ T', m_namesOf_h34 (m_namesOf_j128 (m_namesOf_h18 (j + 1 + e))) ((srt (kI T0) (liD T0 D) m).reverse.length + 1 + e') T1 (nI d) (nI m) k (scn k ((srt (kI T0) (liL T0 D) m).reverse.filter (qN S0 mk m d)) (-1, 0)).1 (nI D) (nI 0) = _ ∧ _
    rw [k1]
    unfold m_namesOf_j128
    rw [nI_1]
    exact ih (D + 1) (by omega) T' k2 k3 k4 k5
theorem srt_0 (κ : Nat → Int) {P : Nat → Bool} : ∀ n, (∀ f, f < n → P f = false) → srt κ P n = [] := by
  intro n
  induction n with
  | zero => intro _; rfl
  | succ n ih => intro h; rw [srt, h n (by omega), if_neg (by decide)]; exact ih (fun f hf => h f (by omega))
theorem nm_rel {Sx Sm : ST} {b : BK} {n m d : Nat} (h : CT Sx Sm b n) (hm : m ≤ n) (hd : d < 100) (o k : Int32) : ∃ S' T' l, l.length ≤ 180 ∧ x1_listNaming Sx o (nI d) (nI m) = some S' ∧ pX S' = pX Sx ∧ S'.1 19 = nI l.length ∧ rlA (S'.2.1 24) l ∧ m_namesOf Sm o (nI d) (nI m) k = some ((scn k l.reverse (-1, 0)).1, T') ∧ T'.1 25 = nI l.length ∧ p2 T' = p2 Sm ∧ CM T' b := by
  have hn := h.2.2.2.2.1
  obtain ⟨S1, T1, mk, q1, q2, q3, q4, q5, q6⟩ := gather_rel (show m ≤ 180 by omega) (fun f hf2 => h.2.2.2.2.2 f (by omega)) o (nI d)
  have hp2 : p2 T1 = p2 Sm := by show p2 (rM (pM T1)) = p2 (rM (pM Sm)); rw [q2]
  have hcm : CM T1 b := by show CM (rM (pM T1)) b; rw [q2]; exact h.2.2.2.1
  obtain ⟨e, he⟩ := FU_s (m + 1) (by omega)
  obtain ⟨e', he'⟩ := FU_s (d + 1 + 1) (by omega)
  obtain ⟨S2, x1, x2, x3, x4⟩ := ln_h18 h hm hd mk e m 0 (by omega) (sI S1 19 0) q1 q3 rfl trivial
  have h0 : srt (kI Sm) (liL Sm 0) m = [] := srt_0 _ m (fun f hf => by
    unfold liL
    by_cases c : Sm.2.1 24 f = 0
    · obtain ⟨-, ⟨z, hz, ez⟩, -⟩ := (h.2.2.2.2.2 f (by omega)).2.1 c
      rw [ez, decide_eq_false (show ¬ nI z < nI 0 from nI_nlt (by omega) (by omega)), Bool.and_false]
    · rw [decide_eq_false c]; rfl)
  obtain ⟨T2, m1, m2, m3, m4⟩ := nm_h18 h hm hd mk k e' (d + 1) 0 (by omega) (sI T1 25 0) (by rw [h0]; rfl) hp2 (CM_f (I := [25]) (A := []) (by decide) (by decide) (by decide) (fr_I _ _ (by decide)) hcm) q4
  have hF : (srt (kI Sm) (liL Sm (d + 1)) m).reverse.filter (qN Sx mk m d) = (srt (kI Sm) (fun f => liB Sm d f && qN Sx mk m d f) m).reverse := by
    rw [List.filter_reverse, srt_filter]
    congr 1
    refine srt_congr (fun f hf => ?_)
    have : liL Sm (d + 1) f = liB Sm d f := by
      unfold liL liB
      by_cases c : Sm.2.1 24 f = 0
      · obtain ⟨-, ⟨z, hz, ez⟩, -⟩ := (h.2.2.2.2.2 f (by omega)).2.1 c
        rw [ez]
        by_cases a : z < d + 1
        · rw [decide_eq_true (nI_lt a (by omega)), decide_eq_false (show ¬ nI d < nI z from nI_nlt (by omega) (by omega))]; rfl
        · rw [decide_eq_false (show ¬ nI z < nI (d + 1) from nI_nlt (by omega) (by omega)), decide_eq_true (show nI d < nI z from nI_lt (by omega) (by omega))]; rfl
      · rw [decide_eq_false c]; rfl
    rw [this]
  rw [hF] at m1 m2
  rw [scn_2, List.length_reverse] at m2
  have hlen := srt_len (kI Sm) (fun f => liB Sm d f && qN Sx mk m d f) m
  refine ⟨S2, T2, srt (kI Sm) (fun f => liB Sm d f && qN Sx mk m d f) m, by omega, ?_, x2, x3, x4, ?_, by rw [m2]; show nI (0 + _) = _; rw [Nat.zero_add], m3, m4⟩
  · unfold x1_listNaming
    rw [q5, calV_s, he]
    exact x1
  · unfold m_namesOf
    rw [q6, calV_s, he']
    rw [h0] at m1
    exact m1
theorem isA_m {S : ST} {n : Nat} (hn : n ≤ 180) (e : S.1 18 = nI n) (a0 a1 a2 : Int32) : m_isAsked S a0 a1 a2 = some (bit (wb a0 && (rb a1 100 && rb a2 (n + 1))), S) := by
  unfold m_isAsked
  simp only [mW, mDay, known_m hn e, chk, chkS]
  cases wb a0
  · rfl
  cases rb a1 100
  · rfl
  cases rb a2 (n + 1) <;> rfl
theorem sim_names {Sx Sm : ST} (h : RR Sx Sm) (a0 a1 a2 : Int32) : ∃ r Sx' Sm', x11_names Sx a0 a1 a2 = some (r, Sx') ∧ m_names Sm a0 a1 a2 = some (r, Sm') ∧ RR Sx' Sm' := by
  obtain ⟨b, n, hZ, hCT, f1, f2⟩ := RR_CT h
  have hn := hCT.2.2.2.2.1
  unfold x11_names m_names
  rw [isA_m hn f2, chkS]
  simp only [bW, b100, known_x hn f1, chk, chkS]
  cases wb a0
  · exact ⟨_, _, _, rfl, rfl, h⟩
  cases c1 : rb a1 100
  · exact ⟨_, _, _, rfl, rfl, h⟩
  cases c : rb a2 (n + 1)
  · exact ⟨_, _, _, rfl, rfl, h⟩
  obtain ⟨d, hd, rfl⟩ := rb_rng (by decide) c1
  obtain ⟨m, hm, rfl⟩ := rb_rng (by omega) c
  obtain ⟨S', T', l, hl, x1, x2, x3, x4, m1, m2, m3, m4⟩ := nm_rel hCT (show m ≤ n by omega) hd a0 (-1)
  simp only [Bool.and_self, if_true]
  rw [x1, m1, calV_s, cal_s, scn_m _ _ (by rw [List.length_reverse]; show 0 + _ < _; omega), if_pos rfl, m2, x3]
  exact ⟨_, _, _, rfl, rfl, RR_mk hZ hCT.2.1 hCT.2.2.1 hCT.1 x2 m3 m4⟩
theorem sim_found {Sx Sm : ST} (h : RR Sx Sm) (a0 a1 a2 a3 : Int32) : ∃ r Sx' Sm', x11_found Sx a0 a1 a2 a3 = some (r, Sx') ∧ m_found Sm a0 a1 a2 a3 = some (r, Sm') ∧ RR Sx' Sm' := by
  obtain ⟨b, n, hZ, hCT, f1, f2⟩ := RR_CT h
  have hn := hCT.2.2.2.2.1
  unfold x11_found m_found
  rw [isA_m hn f2, chkS]
  simp only [bW, b100, known_x hn f1, chk, chkS]
  cases wb a0
  · exact ⟨_, _, _, rfl, rfl, h⟩
  cases c1 : rb a1 100
  · exact ⟨_, _, _, rfl, rfl, h⟩
  cases c : rb a2 (n + 1)
  · exact ⟨_, _, _, rfl, rfl, h⟩
  obtain ⟨d, hd, rfl⟩ := rb_rng (by decide) c1
  obtain ⟨m, hm, rfl⟩ := rb_rng (by omega) c
  obtain ⟨S', T', l, hl, x1, x2, x3, x4, m1, m2, m3, m4⟩ := nm_rel hCT (show m ≤ n by omega) hd a0 a3
  simp only [Bool.and_self, if_true]
  rw [x1, calV_s, ent_x hl x3 x4, cal_s]
  by_cases c3 : a3 < 0
  · rw [if_pos c3, if_neg (Int32.not_le.mpr c3)]
    exact ⟨_, _, _, rfl, rfl, RR_mk hZ hCT.2.1 hCT.2.2.1 hCT.1 x2 rfl hCT.2.2.2.1⟩
  · rw [if_neg c3, if_pos (Int32.not_lt.mp c3), m1, cal_s]
    exact ⟨_, _, _, rfl, rfl, RR_mk hZ hCT.2.1 hCT.2.2.1 hCT.1 x2 m3 m4⟩
