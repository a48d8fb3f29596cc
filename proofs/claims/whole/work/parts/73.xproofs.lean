set_option maxHeartbeats 4000000 in
theorem w_x7_enforceAll_j51 {z : ZT} {ad : AD} {ek : EK} {lh : Launch} {Dh : va_G} {S' : ST} (C : CX z ad ek cX7_enforceAll RX7 lh Dh 3 4) (E : EV z (cX ad) cX7_enforceAll S') {Kb : ST → Int32 → Int32 → Option ST} (hKb : ∀ (S : ST) (l1 : Int32) (l2 : Int32) , Kb S l1 l2 = some S' → XW z (cX ad) 4 [(0, .ref (ad.1 2)), (1, .int l1), (2, .int l2)] [] S) {S : ST} {l1 : Int32} {l2 : Int32} (h : x7_enforceAll_j51 Kb S l1 l2 = some S') : XW z (cX ad) 51 [(0, .ref (ad.1 2)), (1, .int l1), (2, .int l2)] [] S := by
  unfold x7_enforceAll_j51 at h
  exact x_iinc C dX7_enforceAll_51 2 rfl ki_1 (by decide) rfl (x_goto C (tgt := 4) dX7_enforceAll_54 (by decide) (x_perm [1, 2, 0] rfl (hKb _ _ _ h)))
set_option maxHeartbeats 4000000 in
theorem w_x7_enforceAll_j45 {z : ZT} {ad : AD} {ek : EK} {lh : Launch} {Dh : va_G} {S' : ST} (C : CX z ad ek cX7_enforceAll RX7 lh Dh 3 4) (E : EV z (cX ad) cX7_enforceAll S') {Kb : ST → Int32 → Int32 → Int32 → Option ST} (hKb : ∀ (S : ST) (l1 : Int32) (l2 : Int32) (l3 : Int32) , Kb S l1 l2 l3 = some S' → XW z (cX ad) 12 [(0, .ref (ad.1 2)), (1, .int l1), (2, .int l2), (3, .int l3)] [] S) {K51 : ST → Int32 → Int32 → Option ST} (hK51 : ∀ (S : ST) (l1 : Int32) (l2 : Int32) , K51 S l1 l2 = some S' → XW z (cX ad) 51 [(0, .ref (ad.1 2)), (1, .int l1), (2, .int l2)] [] S) {S : ST} {l1 : Int32} {l2 : Int32} {l3 : Int32} (h : x7_enforceAll_j45 Kb K51 S l1 l2 l3 = some S') : XW z (cX ad) 45 [(0, .ref (ad.1 2)), (1, .int l1), (2, .int l2), (3, .int l3)] [] S := by
  unfold x7_enforceAll_j45 at h
  exact x_iinc C dX7_enforceAll_45 3 rfl ki_1 (by decide) rfl (x_goto C (tgt := 12) dX7_enforceAll_48 (by decide) (x_perm [1, 2, 3, 0] rfl (hKb _ _ _ _ h)))
set_option maxHeartbeats 4000000 in
theorem w_x7_enforceAll_h12 {z : ZT} {ad : AD} {ek : EK} {lh : Launch} {Dh : va_G} {S' : ST} (C : CX z ad ek cX7_enforceAll RX7 lh Dh 3 4) (E : EV z (cX ad) cX7_enforceAll S') {K51 : ST → Int32 → Int32 → Option ST} (hK51 : ∀ (S : ST) (l1 : Int32) (l2 : Int32) , K51 S l1 l2 = some S' → XW z (cX ad) 51 [(0, .ref (ad.1 2)), (1, .int l1), (2, .int l2)] [] S) : ∀ (n : Nat) (S : ST) (l1 : Int32) (l2 : Int32) (l3 : Int32), x7_enforceAll_h12 K51 n S l1 l2 l3 = some S' → XW z (cX ad) 12 [(0, .ref (ad.1 2)), (1, .int l1), (2, .int l2), (3, .int l3)] [] S := by
  intro n
  induction n with
  | zero => intro S l1 l2 l3 h; cases h
  | succ n ih =>
    intro S l1 l2 l3 h
    have hKb := ih
    refine x_iload_n C dX7_enforceAll_12 rfl 3 rfl (x_aload_n C dX7_enforceAll_13 rfl 0 rfl (gX_X7_15 C u_1_87 dX7_enforceAll_14 (x_icmp_ge C (tgt := 51) dX7_enforceAll_17 (by decide) (fun c => ?_) (fun c => ?_))))
    · have h := ite_t h c
      exact x_perm [0, 1, 2] rfl (hK51 _ _ _ h)
    · have h := ite_f h c
      refine x_iload_n C dX7_enforceAll_20 rfl 1 rfl (x_bipush C dX7_enforceAll_21 kb_6 (x_icmp_ge C (tgt := 51) dX7_enforceAll_23 (by decide) (fun c => ?_) (fun c => ?_)))
      · have h := ite_t h c
        exact x_perm [0, 1, 2] rfl (hK51 _ _ _ h)
      · have h := ite_f h c
        obtain ⟨g31, h⟩ := G_some h
        refine x_aload_n C dX7_enforceAll_26 rfl 0 rfl (gX_X7_8 C u_1_80 dX7_enforceAll_27 (x_iload_n C dX7_enforceAll_30 rfl 3 rfl (aX_21 C g31 dX7_enforceAll_31 (x_iload_n C dX7_enforceAll_32 rfl 2 rfl (x_icmp_ne C (tgt := 45) dX7_enforceAll_33 (by decide) (fun c => ?_) (fun c => ?_))))))
        · have h := ite_f h c
          exact w_x7_enforceAll_j45 C E hKb hK51 h
        · have h := ite_t h c
          obtain ⟨S39, e39, h⟩ := calV_some h
          exact x_aload_n C dX7_enforceAll_36 rfl 0 rfl (x_iload_n C dX7_enforceAll_37 rfl 3 rfl (x_iload_n C dX7_enforceAll_38 rfl 1 rfl (x_callVv C (c_x7_enforceText e39) k_X7_69 (ci := 7) (q0 := 2) rfl rfl (by decide) (Nat.le_of_ble_eq_true rfl) rfl dX7_enforceAll_39 (x_iinc C dX7_enforceAll_42 1 rfl ki_1 (by decide) rfl (x_perm [1, 0, 2, 3] rfl (w_x7_enforceAll_j45 C E hKb hK51 h))))))
set_option maxHeartbeats 4000000 in
theorem w_x7_enforceAll_h4 {z : ZT} {ad : AD} {ek : EK} {lh : Launch} {Dh : va_G} {S' : ST} (C : CX z ad ek cX7_enforceAll RX7 lh Dh 3 4) (E : EV z (cX ad) cX7_enforceAll S') : ∀ (n : Nat) (S : ST) (l1 : Int32) (l2 : Int32), x7_enforceAll_h4 n S l1 l2 = some S' → XW z (cX ad) 4 [(0, .ref (ad.1 2)), (1, .int l1), (2, .int l2)] [] S := by
  intro n
  induction n with
  | zero => intro S l1 l2 h; cases h
  | succ n ih =>
    intro S l1 l2 h
    have hKb := ih
    refine x_iload_n C dX7_enforceAll_4 rfl 2 rfl (x_bipush C dX7_enforceAll_5 kb_100 (x_icmp_ge C (tgt := 57) dX7_enforceAll_7 (by decide) (fun c => ?_) (fun c => ?_)))
    · have h := ite_t h c
      exact (by
        exact x_vret E h dX7_enforceAll_57)
    · have h := ite_f h c
      exact x_iconst C dX7_enforceAll_10 kc_0 (x_istore_n C dX7_enforceAll_11 rfl (by decide) rfl (x_perm [1, 2, 3, 0] rfl (w_x7_enforceAll_h12 C E (fun _ _ _ h => w_x7_enforceAll_j51 C E hKb h) FU _ _ _ _ h)))
set_option maxHeartbeats 4000000 in
theorem c_x7_enforceAll {ad : AD} {ek : EK} {lh : Launch} {Dh : va_G} {S' : ST}  {S : ST} (h : x7_enforceAll S = some S') : MXv lh Dh ad ek (cX ad) yX7_enforceAll cX7_enforceAll 4 none 3 [.ref (ad.1 2)] S S' := by
  refine mxv_of (by decide) (Nat.le_of_ble_eq_true rfl) (fun z C E => ?_)
  unfold x7_enforceAll at h
  exact x_iconst C dX7_enforceAll_0 kc_0 (x_istore_n C dX7_enforceAll_1 rfl (by decide) rfl (x_iconst C dX7_enforceAll_2 kc_0 (x_istore_n C dX7_enforceAll_3 rfl (by decide) rfl (x_perm [2, 1, 0] rfl (w_x7_enforceAll_h4 C E FU _ _ _ h)))))
set_option maxHeartbeats 4000000 in
theorem w_x8_differences_j42 {z : ZT} {ad : AD} {ek : EK} {lh : Launch} {Dh : va_G} {r : Int32} {S' : ST} (C : CX z ad ek cX8_differences RX8 lh Dh 3 5) (E : EI z (cX ad) cX8_differences (some .int) r S') {Kb : ST → Int32 → Int32 → Int32 → Int32 → Option (Int32 × ST)} (hKb : ∀ (S : ST) (l1 : Int32) (l2 : Int32) (l3 : Int32) (l4 : Int32) , Kb S l1 l2 l3 l4 = some (r, S') → XW z (cX ad) 14 [(0, .ref (ad.1 8)), (1, .int l1), (2, .int l2), (3, .int l3), (4, .int l4)] [] S) {S : ST} {l1 : Int32} {l2 : Int32} {l3 : Int32} {l4 : Int32} (h : x8_differences_j42 Kb S l1 l2 l3 l4 = some (r, S')) : XW z (cX ad) 42 [(0, .ref (ad.1 8)), (1, .int l1), (2, .int l2), (3, .int l3), (4, .int l4)] [] S := by
  unfold x8_differences_j42 at h
  exact x_iinc C dX8_differences_42 4 rfl ki_1 (by decide) rfl (x_goto C (tgt := 14) dX8_differences_45 (by decide) (x_perm [1, 2, 3, 4, 0] rfl (hKb _ _ _ _ _ h)))
set_option maxHeartbeats 4000000 in
theorem w_x8_differences_h14 {z : ZT} {ad : AD} {ek : EK} {lh : Launch} {Dh : va_G} {r : Int32} {S' : ST} (C : CX z ad ek cX8_differences RX8 lh Dh 3 5) (E : EI z (cX ad) cX8_differences (some .int) r S') : ∀ (n : Nat) (S : ST) (l1 : Int32) (l2 : Int32) (l3 : Int32) (l4 : Int32), x8_differences_h14 n S l1 l2 l3 l4 = some (r, S') → XW z (cX ad) 14 [(0, .ref (ad.1 8)), (1, .int l1), (2, .int l2), (3, .int l3), (4, .int l4)] [] S := by
  intro n
  induction n with
  | zero => intro S l1 l2 l3 l4 h; cases h
  | succ n ih =>
    intro S l1 l2 l3 l4 h
    have hKb := ih
    refine x_iload C dX8_differences_14 4 rfl (x_iload_n C dX8_differences_16 rfl 1 rfl (x_icmp_ge C (tgt := 48) dX8_differences_17 (by decide) (fun c => ?_) (fun c => ?_)))
    · have h := ite_t h c
      exact (by
        exact x_iload_n C dX8_differences_48 rfl 2 rfl (x_iret E h retI dX8_differences_49))
    · have h := ite_f h c
      obtain ⟨r26, S26, e26, h⟩ := cal_some h
      obtain ⟨r33, S33, e33, h⟩ := cal_some h
      refine x_aload_n C dX8_differences_20 rfl 0 rfl (x_iconst C dX8_differences_21 kc_0 (x_iload_n C dX8_differences_22 rfl 3 rfl (x_iload C dX8_differences_23 4 rfl (x_iadd C dX8_differences_25 (x_callVi C (c_x8_wordAt e26) k_X8_34 (ci := 8) (q0 := 8) rfl rfl (by decide) (Nat.le_of_ble_eq_true rfl) rfl dX8_differences_26 (x_aload_n C dX8_differences_29 rfl 0 rfl (x_iconst C dX8_differences_30 kc_1 (x_iload C dX8_differences_31 4 rfl (x_callVi C (c_x8_wordAt e33) k_X8_34 (ci := 8) (q0 := 8) rfl rfl (by decide) (Nat.le_of_ble_eq_true rfl) rfl dX8_differences_33 (x_icmp_eq C (tgt := 42) dX8_differences_36 (by decide) (fun c => ?_) (fun c => ?_)))))))))))
      · have h := ite_t h c
        exact w_x8_differences_j42 C E hKb h
      · have h := ite_f h c
        exact x_iinc C dX8_differences_39 2 rfl ki_1 (by decide) rfl (x_perm [1, 2, 0, 3, 4] rfl (w_x8_differences_j42 C E hKb h))
set_option maxHeartbeats 4000000 in
theorem c_x8_differences {ad : AD} {ek : EK} {lh : Launch} {Dh : va_G} {r : Int32} {S' : ST}  {S : ST} {l1 : Int32} (h : x8_differences S l1 = some (r, S')) : MXi lh Dh ad ek (cX ad) yX8_differences cX8_differences 5 (some .int) 3 [.ref (ad.1 8), .int l1] S r S' := by
  refine mxi_of (by decide) (Nat.le_of_ble_eq_true rfl) (fun z C E => ?_)
  unfold x8_differences at h
  obtain ⟨g7, h⟩ := G_some h
  exact x_iconst C dX8_differences_0 kc_0 (x_istore_n C dX8_differences_1 rfl (by decide) rfl (x_aload_n C dX8_differences_2 rfl 1 rfl (gX_X8_1 C u_2_93 dX8_differences_3 (x_iconst C dX8_differences_6 kc_0 (aX_40 C g7 dX8_differences_7 (x_iload_n C dX8_differences_8 rfl 2 rfl (x_isub C dX8_differences_9 (x_istore_n C dX8_differences_10 rfl (by decide) rfl (x_iconst C dX8_differences_11 kc_0 (x_istore C dX8_differences_12 (by decide) rfl (x_perm [3, 4, 2, 1, 0] rfl (w_x8_differences_h14 C E FU _ _ _ _ _ h))))))))))))
set_option maxHeartbeats 4000000 in
theorem w_x8_distance_j146 {z : ZT} {ad : AD} {ek : EK} {lh : Launch} {Dh : va_G} {r : Int32} {S' : ST} (C : CX z ad ek cX8_distance RX8 lh Dh 3 7) (E : EI z (cX ad) cX8_distance (some .int) r S') {S : ST} {l2 : Int32} (h : x8_distance_j146 S l2 = some (r, S')) : XW z (cX ad) 146 [(0, .ref (ad.1 8)), (2, .int l2)] [] S := by
  unfold x8_distance_j146 at h
  obtain ⟨r148, S148, e148, h⟩ := cal_some h
  refine x_aload_n C dX8_distance_146 rfl 0 rfl (x_iload_n C dX8_distance_147 rfl 1 rfl (x_callVi C (c_x8_lengthOf e148) k_X8_21 (ci := 8) (q0 := 8) rfl rfl (by decide) (Nat.le_of_ble_eq_true rfl) rfl dX8_distance_148 (x_istore_n C dX8_distance_151 rfl (by decide) rfl (x_iload_n C dX8_distance_152 rfl 0 rfl (x_if_lt C (tgt := 171) dX8_distance_153 (by decide) (fun c => ?_) (fun c => ?_))))))
  · have h := ite_t h c
    exact x_iconst C dX8_distance_171 kc_m1 (x_iret E h retI dX8_distance_172)
  · have h := ite_f h c
    refine x_iload_n C dX8_distance_156 rfl 0 rfl (x_bipush C dX8_distance_157 kb_12 (x_icmp_gt C (tgt := 171) dX8_distance_159 (by decide) (fun c => ?_) (fun c => ?_)))
    · have h := ite_t h c
      exact x_iconst C dX8_distance_171 kc_m1 (x_iret E h retI dX8_distance_172)
    · have h := ite_f h c
      obtain ⟨g167, h⟩ := G_some h
      exact x_aload_n C dX8_distance_162 rfl 1 rfl (gX_X8_2 C u_2_94 dX8_distance_163 (x_iload_n C dX8_distance_166 rfl 0 rfl (aX_41 C g167 dX8_distance_167 (x_goto C (tgt := 172) dX8_distance_168 (by decide) (x_iret E h retI dX8_distance_172)))))
set_option maxHeartbeats 4000000 in
theorem w_x8_distance_j140 {z : ZT} {ad : AD} {ek : EK} {lh : Launch} {Dh : va_G} {r : Int32} {S' : ST} (C : CX z ad ek cX8_distance RX8 lh Dh 3 7) (E : EI z (cX ad) cX8_distance (some .int) r S') {Kb : ST → Int32 → Int32 → Int32 → Option (Int32 × ST)} (hKb : ∀ (S : ST) (l1 : Int32) (l2 : Int32) (l3 : Int32) , Kb S l1 l2 l3 = some (r, S') → XW z (cX ad) 23 [(0, .ref (ad.1 8)), (1, .int l1), (2, .int l2), (3, .int l3)] [] S) {K146 : ST → Int32 → Option (Int32 × ST)} (hK146 : ∀ (S : ST) (l2 : Int32) , K146 S l2 = some (r, S') → XW z (cX ad) 146 [(0, .ref (ad.1 8)), (2, .int l2)] [] S) {S : ST} {l1 : Int32} {l2 : Int32} {l3 : Int32} (h : x8_distance_j140 Kb K146 S l1 l2 l3 = some (r, S')) : XW z (cX ad) 140 [(0, .ref (ad.1 8)), (1, .int l1), (2, .int l2), (3, .int l3)] [] S := by
  unfold x8_distance_j140 at h
  exact x_iinc C dX8_distance_140 3 rfl ki_1 (by decide) rfl (x_goto C (tgt := 23) dX8_distance_143 (by decide) (x_perm [1, 2, 3, 0] rfl (hKb _ _ _ _ h)))
set_option maxHeartbeats 4000000 in
theorem w_x8_distance_j92 {z : ZT} {ad : AD} {ek : EK} {lh : Launch} {Dh : va_G} {r : Int32} {S' : ST} (C : CX z ad ek cX8_distance RX8 lh Dh 3 7) (E : EI z (cX ad) cX8_distance (some .int) r S') {Kb : ST → Int32 → Int32 → Int32 → Int32 → Int32 → Option (Int32 × ST)} (hKb : ∀ (S : ST) (l1 : Int32) (l2 : Int32) (l3 : Int32) (l4 : Int32) (l5 : Int32) , Kb S l1 l2 l3 l4 l5 = some (r, S') → XW z (cX ad) 52 [(0, .ref (ad.1 8)), (1, .int l1), (2, .int l2), (3, .int l3), (4, .int l4), (5, .int l5)] [] S) {K140 : ST → Int32 → Int32 → Int32 → Option (Int32 × ST)} (hK140 : ∀ (S : ST) (l1 : Int32) (l2 : Int32) (l3 : Int32) , K140 S l1 l2 l3 = some (r, S') → XW z (cX ad) 140 [(0, .ref (ad.1 8)), (1, .int l1), (2, .int l2), (3, .int l3)] [] S) {S : ST} {l1 : Int32} {l2 : Int32} {l3 : Int32} {l5 : Int32} {s0 : Int32} {s1 : Int32} (h : x8_distance_j92 Kb K140 S l1 l2 l3 l5 s0 s1 = some (r, S')) : XW z (cX ad) 92 [(0, .ref (ad.1 8)), (1, .int l1), (2, .int l2), (3, .int l3), (5, .int l5)] [.int s0, .int s1] S := by
  unfold x8_distance_j92 at h
  obtain ⟨g103, h⟩ := G_some h
  obtain ⟨g125, h⟩ := G_some h
  obtain ⟨g133, h⟩ := G_some h
  exact x_iadd C dX8_distance_92 (x_istore C dX8_distance_93 (by decide) rfl (x_aload_n C dX8_distance_95 rfl 1 rfl (gX_X8_2 C u_2_94 dX8_distance_96 (x_iload C dX8_distance_99 5 rfl (x_iconst C dX8_distance_101 kc_1 (x_iadd C dX8_distance_102 (aX_41 C g103 dX8_distance_103 (x_istore C dX8_distance_104 (by decide) rfl (x_aload_n C dX8_distance_106 rfl 2 rfl (gX_X8_2 C u_2_94 dX8_distance_107 (x_iload C dX8_distance_110 6 rfl (x_iconst C dX8_distance_112 kc_1 (x_iadd C dX8_distance_113 (x_iload C dX8_distance_114 1 rfl (x_iconst C dX8_distance_116 kc_1 (x_iload C dX8_distance_117 0 rfl (x_aload_n C dX8_distance_119 rfl 2 rfl (gX_X8_2 C u_2_94 dX8_distance_120 (x_iload C dX8_distance_123 6 rfl (aX_41 C g125 dX8_distance_125 (x_mmin C u_4_175 (by decide) (Nat.le_of_ble_eq_true rfl) dX8_distance_126 (x_iadd C dX8_distance_129 (x_mmin C u_4_175 (by decide) (Nat.le_of_ble_eq_true rfl) dX8_distance_130 (sX_41 C g133 dX8_distance_133 (x_iinc C dX8_distance_134 6 rfl ki_1 (by decide) rfl (x_goto C (tgt := 52) dX8_distance_137 (by decide) (x_perm [3, 4, 5, 6, 1, 0] rfl (hKb _ _ _ _ _ _ h))))))))))))))))))))))))))))
set_option maxHeartbeats 4000000 in
theorem w_x8_distance_h52 {z : ZT} {ad : AD} {ek : EK} {lh : Launch} {Dh : va_G} {r : Int32} {S' : ST} (C : CX z ad ek cX8_distance RX8 lh Dh 3 7) (E : EI z (cX ad) cX8_distance (some .int) r S') {K140 : ST → Int32 → Int32 → Int32 → Option (Int32 × ST)} (hK140 : ∀ (S : ST) (l1 : Int32) (l2 : Int32) (l3 : Int32) , K140 S l1 l2 l3 = some (r, S') → XW z (cX ad) 140 [(0, .ref (ad.1 8)), (1, .int l1), (2, .int l2), (3, .int l3)] [] S) : ∀ (n : Nat) (S : ST) (l1 : Int32) (l2 : Int32) (l3 : Int32) (l4 : Int32) (l5 : Int32), x8_distance_h52 K140 n S l1 l2 l3 l4 l5 = some (r, S') → XW z (cX ad) 52 [(0, .ref (ad.1 8)), (1, .int l1), (2, .int l2), (3, .int l3), (4, .int l4), (5, .int l5)] [] S := by
  intro n
  induction n with
  | zero => intro S l1 l2 l3 l4 l5 h; cases h
  | succ n ih =>
    intro S l1 l2 l3 l4 l5 h
    have hKb := ih
    obtain ⟨r56, S56, e56, h⟩ := cal_some h
    refine x_iload C dX8_distance_52 5 rfl (x_aload_n C dX8_distance_54 rfl 0 rfl (x_iload_n C dX8_distance_55 rfl 2 rfl (x_callVi C (c_x8_lengthOf e56) k_X8_21 (ci := 8) (q0 := 8) rfl rfl (by decide) (Nat.le_of_ble_eq_true rfl) rfl dX8_distance_56 (x_icmp_ge C (tgt := 140) dX8_distance_59 (by decide) (fun c => ?_) (fun c => ?_)))))
    · have h := ite_t h c
      exact x_perm [0, 1, 2, 3] rfl (hK140 _ _ _ _ h)
    · have h := ite_f h c
      refine x_iload C dX8_distance_62 5 rfl (x_bipush C dX8_distance_64 kb_12 (x_icmp_ge C (tgt := 140) dX8_distance_66 (by decide) (fun c => ?_) (fun c => ?_)))
      · have h := ite_t h c
        exact x_perm [0, 1, 2, 3] rfl (hK140 _ _ _ _ h)
      · have h := ite_f h c
        obtain ⟨r74, S74, e74, h⟩ := cal_some h
        obtain ⟨r81, S81, e81, h⟩ := cal_some h
        refine x_iload C dX8_distance_69 4 rfl (x_aload_n C dX8_distance_71 rfl 0 rfl (x_iload_n C dX8_distance_72 rfl 1 rfl (x_iload_n C dX8_distance_73 rfl 3 rfl (x_callVi C (c_x8_wordAt e74) k_X8_34 (ci := 8) (q0 := 8) rfl rfl (by decide) (Nat.le_of_ble_eq_true rfl) rfl dX8_distance_74 (x_aload_n C dX8_distance_77 rfl 0 rfl (x_iload_n C dX8_distance_78 rfl 2 rfl (x_iload C dX8_distance_79 5 rfl (x_callVi C (c_x8_wordAt e81) k_X8_34 (ci := 8) (q0 := 8) rfl rfl (by decide) (Nat.le_of_ble_eq_true rfl) rfl dX8_distance_81 (x_icmp_ne C (tgt := 91) dX8_distance_84 (by decide) (fun c => ?_) (fun c => ?_))))))))))
        · have h := ite_f h c
          exact x_iconst C dX8_distance_91 kc_1 (x_perm [0, 1, 2, 3, 5] rfl (w_x8_distance_j92 C E hKb hK140 h))
        · have h := ite_t h c
          exact x_iconst C dX8_distance_87 kc_0 (x_goto C (tgt := 92) dX8_distance_88 (by decide) (x_perm [0, 1, 2, 3, 5] rfl (w_x8_distance_j92 C E hKb hK140 h)))
set_option maxHeartbeats 4000000 in
theorem w_x8_distance_h23 {z : ZT} {ad : AD} {ek : EK} {lh : Launch} {Dh : va_G} {r : Int32} {S' : ST} (C : CX z ad ek cX8_distance RX8 lh Dh 3 7) (E : EI z (cX ad) cX8_distance (some .int) r S') {K146 : ST → Int32 → Option (Int32 × ST)} (hK146 : ∀ (S : ST) (l2 : Int32) , K146 S l2 = some (r, S') → XW z (cX ad) 146 [(0, .ref (ad.1 8)), (2, .int l2)] [] S) : ∀ (n : Nat) (S : ST) (l1 : Int32) (l2 : Int32) (l3 : Int32), x8_distance_h23 K146 n S l1 l2 l3 = some (r, S') → XW z (cX ad) 23 [(0, .ref (ad.1 8)), (1, .int l1), (2, .int l2), (3, .int l3)] [] S := by
  intro n
  induction n with
  | zero => intro S l1 l2 l3 h; cases h
  | succ n ih =>
    intro S l1 l2 l3 h
    have hKb := ih
    obtain ⟨r26, S26, e26, h⟩ := cal_some h
    refine x_iload_n C dX8_distance_23 rfl 3 rfl (x_aload_n C dX8_distance_24 rfl 0 rfl (x_iload_n C dX8_distance_25 rfl 1 rfl (x_callVi C (c_x8_lengthOf e26) k_X8_21 (ci := 8) (q0 := 8) rfl rfl (by decide) (Nat.le_of_ble_eq_true rfl) rfl dX8_distance_26 (x_icmp_ge C (tgt := 146) dX8_distance_29 (by decide) (fun c => ?_) (fun c => ?_)))))
    · have h := ite_t h c
      exact x_perm [0, 2] rfl (hK146 _ _ h)
    · have h := ite_f h c
      obtain ⟨g37, h⟩ := G_some h
      obtain ⟨g48, h⟩ := G_some h
      exact x_aload_n C dX8_distance_32 rfl 0 rfl (gX_X8_2 C u_2_94 dX8_distance_33 (x_iconst C dX8_distance_36 kc_0 (aX_41 C g37 dX8_distance_37 (x_istore C dX8_distance_38 (by decide) rfl (x_aload_n C dX8_distance_40 rfl 1 rfl (gX_X8_2 C u_2_94 dX8_distance_41 (x_iconst C dX8_distance_44 kc_0 (x_iload_n C dX8_distance_45 rfl 4 rfl (x_iconst C dX8_distance_46 kc_1 (x_iadd C dX8_distance_47 (sX_41 C g48 dX8_distance_48 (x_iconst C dX8_distance_49 kc_0 (x_istore C dX8_distance_50 (by decide) rfl (x_perm [2, 3, 4, 5, 1, 0] rfl (w_x8_distance_h52 C E (fun _ _ _ _ h => w_x8_distance_j140 C E hKb hK146 h) FU _ _ _ _ _ _ h)))))))))))))))
set_option maxHeartbeats 4000000 in
theorem w_x8_distance_j21 {z : ZT} {ad : AD} {ek : EK} {lh : Launch} {Dh : va_G} {r : Int32} {S' : ST} (C : CX z ad ek cX8_distance RX8 lh Dh 3 7) (E : EI z (cX ad) cX8_distance (some .int) r S') {S : ST} {l1 : Int32} {l2 : Int32} (h : x8_distance_j21 S l1 l2 = some (r, S')) : XW z (cX ad) 21 [(0, .ref (ad.1 8)), (1, .int l1), (2, .int l2)] [] S := by
  unfold x8_distance_j21 at h
  exact x_iconst C dX8_distance_21 kc_0 (x_istore_n C dX8_distance_22 rfl (by decide) rfl (x_perm [1, 2, 3, 0] rfl (w_x8_distance_h23 C E (fun _ _ h => w_x8_distance_j146 C E  h) FU _ _ _ _ h)))
set_option maxHeartbeats 4000000 in
theorem w_x8_distance_h2 {z : ZT} {ad : AD} {ek : EK} {lh : Launch} {Dh : va_G} {r : Int32} {S' : ST} (C : CX z ad ek cX8_distance RX8 lh Dh 3 7) (E : EI z (cX ad) cX8_distance (some .int) r S') {K21 : ST → Int32 → Int32 → Option (Int32 × ST)} (hK21 : ∀ (S : ST) (l1 : Int32) (l2 : Int32) , K21 S l1 l2 = some (r, S') → XW z (cX ad) 21 [(0, .ref (ad.1 8)), (1, .int l1), (2, .int l2)] [] S) : ∀ (n : Nat) (S : ST) (l1 : Int32) (l2 : Int32) (l3 : Int32), x8_distance_h2 K21 n S l1 l2 l3 = some (r, S') → XW z (cX ad) 2 [(0, .ref (ad.1 8)), (1, .int l1), (2, .int l2), (3, .int l3)] [] S := by
  intro n
  induction n with
  | zero => intro S l1 l2 l3 h; cases h
  | succ n ih =>
    intro S l1 l2 l3 h
    have hKb := ih
    refine x_iload_n C dX8_distance_2 rfl 3 rfl (x_bipush C dX8_distance_3 kb_12 (x_icmp_gt C (tgt := 21) dX8_distance_5 (by decide) (fun c => ?_) (fun c => ?_)))
    · have h := ite_t h c
      exact x_perm [0, 1, 2] rfl (hK21 _ _ _ h)
    · have h := ite_f h c
      obtain ⟨g14, h⟩ := G_some h
      exact x_aload_n C dX8_distance_8 rfl 0 rfl (gX_X8_2 C u_2_94 dX8_distance_9 (x_iload_n C dX8_distance_12 rfl 3 rfl (x_iload_n C dX8_distance_13 rfl 3 rfl (sX_41 C g14 dX8_distance_14 (x_iinc C dX8_distance_15 3 rfl ki_1 (by decide) rfl (x_goto C (tgt := 2) dX8_distance_18 (by decide) (x_perm [1, 2, 3, 0] rfl (hKb _ _ _ _ h))))))))
set_option maxHeartbeats 4000000 in
theorem c_x8_distance {ad : AD} {ek : EK} {lh : Launch} {Dh : va_G} {r : Int32} {S' : ST}  {S : ST} {l1 : Int32} {l2 : Int32} (h : x8_distance S l1 l2 = some (r, S')) : MXi lh Dh ad ek (cX ad) yX8_distance cX8_distance 7 (some .int) 3 [.ref (ad.1 8), .int l1, .int l2] S r S' := by
  refine mxi_of (by decide) (Nat.le_of_ble_eq_true rfl) (fun z C E => ?_)
  unfold x8_distance at h
  exact x_iconst C dX8_distance_0 kc_0 (x_istore_n C dX8_distance_1 rfl (by decide) rfl (x_perm [1, 2, 3, 0] rfl (w_x8_distance_h2 C E (fun _ _ _ h => w_x8_distance_j21 C E  h) FU _ _ _ _ h)))
set_option maxHeartbeats 4000000 in
theorem w_x8_timesOnTape_j27 {z : ZT} {ad : AD} {ek : EK} {lh : Launch} {Dh : va_G} {r : Int32} {S' : ST} (C : CX z ad ek cX8_timesOnTape RX8 lh Dh 3 4) (E : EI z (cX ad) cX8_timesOnTape (some .int) r S') {Kb : ST → Int32 → Int32 → Int32 → Option (Int32 × ST)} (hKb : ∀ (S : ST) (l1 : Int32) (l2 : Int32) (l3 : Int32) , Kb S l1 l2 l3 = some (r, S') → XW z (cX ad) 4 [(0, .ref (ad.1 8)), (1, .int l1), (2, .int l2), (3, .int l3)] [] S) {S : ST} {l1 : Int32} {l2 : Int32} {l3 : Int32} (h : x8_timesOnTape_j27 Kb S l1 l2 l3 = some (r, S')) : XW z (cX ad) 27 [(0, .ref (ad.1 8)), (1, .int l1), (2, .int l2), (3, .int l3)] [] S := by
  unfold x8_timesOnTape_j27 at h
  exact x_iinc C dX8_timesOnTape_27 3 rfl ki_1 (by decide) rfl (x_goto C (tgt := 4) dX8_timesOnTape_30 (by decide) (x_perm [1, 2, 3, 0] rfl (hKb _ _ _ _ h)))
set_option maxHeartbeats 4000000 in
theorem w_x8_timesOnTape_h4 {z : ZT} {ad : AD} {ek : EK} {lh : Launch} {Dh : va_G} {r : Int32} {S' : ST} (C : CX z ad ek cX8_timesOnTape RX8 lh Dh 3 4) (E : EI z (cX ad) cX8_timesOnTape (some .int) r S') : ∀ (n : Nat) (S : ST) (l1 : Int32) (l2 : Int32) (l3 : Int32), x8_timesOnTape_h4 n S l1 l2 l3 = some (r, S') → XW z (cX ad) 4 [(0, .ref (ad.1 8)), (1, .int l1), (2, .int l2), (3, .int l3)] [] S := by
  intro n
  induction n with
  | zero => intro S l1 l2 l3 h; cases h
  | succ n ih =>
    intro S l1 l2 l3 h
    have hKb := ih
    obtain ⟨g10, h⟩ := G_some h
    refine x_iload_n C dX8_timesOnTape_4 rfl 3 rfl (x_aload_n C dX8_timesOnTape_5 rfl 0 rfl (gX_X8_1 C u_2_93 dX8_timesOnTape_6 (x_iconst C dX8_timesOnTape_9 kc_2 (aX_40 C g10 dX8_timesOnTape_10 (x_icmp_ge C (tgt := 33) dX8_timesOnTape_11 (by decide) (fun c => ?_) (fun c => ?_))))))
    · have h := ite_t h c
      exact (by
        exact x_iload_n C dX8_timesOnTape_33 rfl 2 rfl (x_iret E h retI dX8_timesOnTape_34))
    · have h := ite_f h c
      obtain ⟨r17, S17, e17, h⟩ := cal_some h
      refine x_aload_n C dX8_timesOnTape_14 rfl 0 rfl (x_iconst C dX8_timesOnTape_15 kc_2 (x_iload_n C dX8_timesOnTape_16 rfl 3 rfl (x_callVi C (c_x8_wordAt e17) k_X8_34 (ci := 8) (q0 := 8) rfl rfl (by decide) (Nat.le_of_ble_eq_true rfl) rfl dX8_timesOnTape_17 (x_iload_n C dX8_timesOnTape_20 rfl 1 rfl (x_icmp_ne C (tgt := 27) dX8_timesOnTape_21 (by decide) (fun c => ?_) (fun c => ?_))))))
      · have h := ite_f h c
        exact w_x8_timesOnTape_j27 C E hKb h
      · have h := ite_t h c
        exact x_iinc C dX8_timesOnTape_24 2 rfl ki_1 (by decide) rfl (x_perm [1, 2, 0, 3] rfl (w_x8_timesOnTape_j27 C E hKb h))
set_option maxHeartbeats 4000000 in
theorem c_x8_timesOnTape {ad : AD} {ek : EK} {lh : Launch} {Dh : va_G} {r : Int32} {S' : ST}  {S : ST} {l1 : Int32} (h : x8_timesOnTape S l1 = some (r, S')) : MXi lh Dh ad ek (cX ad) yX8_timesOnTape cX8_timesOnTape 4 (some .int) 3 [.ref (ad.1 8), .int l1] S r S' := by
  refine mxi_of (by decide) (Nat.le_of_ble_eq_true rfl) (fun z C E => ?_)
  unfold x8_timesOnTape at h
  exact x_iconst C dX8_timesOnTape_0 kc_0 (x_istore_n C dX8_timesOnTape_1 rfl (by decide) rfl (x_iconst C dX8_timesOnTape_2 kc_0 (x_istore_n C dX8_timesOnTape_3 rfl (by decide) rfl (x_perm [2, 3, 1, 0] rfl (w_x8_timesOnTape_h4 C E FU _ _ _ _ h)))))
set_option maxHeartbeats 4000000 in
theorem c_x11_apart {ad : AD} {ek : EK} {lh : Launch} {Dh : va_G} {r : Int32} {S' : ST}  {S : ST} {l1 : Int32} {l2 : Int32} (h : x11_apart S l1 l2 = some (r, S')) : MXi lh Dh ad ek (cX ad) yX11_apart cX11_apart 3 (some .int) 4 [.ref (ad.1 0), .int l1, .int l2] S r S' := by
  refine mxi_of (by decide) (Nat.le_of_ble_eq_true rfl) (fun z C E => ?_)
  unfold x11_apart at h
  obtain ⟨r2, e2, h⟩ := cal0_some h
  refine x_iload_n C dX11_apart_0 rfl 1 rfl (x_iconst C dX11_apart_1 kc_3 (x_callSi C (c_x11_isBelow e2) k_X11_113 (by decide) (Nat.le_of_ble_eq_true rfl) rfl dX11_apart_2 (x_if_eq C (tgt := 16) dX11_apart_5 (by decide) (fun c => ?_) (fun c => ?_))))
  · have h := ite_t h c
    exact x_iconst C dX11_apart_16 kc_m1 (x_iret E h retI dX11_apart_17)
  · have h := ite_f h c
    obtain ⟨r10, e10, h⟩ := cal0_some h
    refine x_iload_n C dX11_apart_8 rfl 2 rfl (x_iconst C dX11_apart_9 kc_3 (x_callSi C (c_x11_isBelow e10) k_X11_113 (by decide) (Nat.le_of_ble_eq_true rfl) rfl dX11_apart_10 (x_if_ne C (tgt := 18) dX11_apart_13 (by decide) (fun c => ?_) (fun c => ?_))))
    · have h := ite_f h c
      obtain ⟨r24, S24, e24, h⟩ := cal_some h
      exact x_aload_n C dX11_apart_18 rfl 0 rfl (gX_X11_7 C u_2_146 dX11_apart_19 (x_iload_n C dX11_apart_22 rfl 1 rfl (x_iload_n C dX11_apart_23 rfl 2 rfl (x_callVi C (c_x8_distance e24) k_X11_223 (ci := 8) (q0 := 8) rfl rfl (by decide) (Nat.le_of_ble_eq_true rfl) rfl dX11_apart_24 (x_iret E h retI dX11_apart_27)))))
    · have h := ite_t h c
      exact x_iconst C dX11_apart_16 kc_m1 (x_iret E h retI dX11_apart_17)
set_option maxHeartbeats 4000000 in
theorem w_x2_parseExpression_j109 {z : ZT} {ad : AD} {ek : EK} {lh : Launch} {Dh : va_G} {S' : ST} (C : CX z ad ek cX2_parseExpression RX2 lh Dh 4 5) (E : EV z (cX ad) cX2_parseExpression S') {S : ST} {l1 : Int32} (h : x2_parseExpression_j109 S l1 = some S') : XW z (cX ad) 109 [(0, .ref (ad.1 3)), (1, .int l1)] [] S := by
  unfold x2_parseExpression_j109 at h
  refine x_iload_n C dX2_parseExpression_109 rfl 1 rfl (x_if_le C (tgt := 118) dX2_parseExpression_110 (by decide) (fun c => ?_) (fun c => ?_))
  · have h := ite_t h c
    exact x_vret E h dX2_parseExpression_118
  · have h := ite_f h c
    obtain ⟨S115, e115, h⟩ := calV_some h
    exact x_aload_n C dX2_parseExpression_113 rfl 0 rfl (x_iconst C dX2_parseExpression_114 kc_1 (x_callVv C (c_x2_refuse e115) k_X2_66 (ci := 2) (q0 := 3) rfl rfl (by decide) (Nat.le_of_ble_eq_true rfl) rfl dX2_parseExpression_115 (x_vret E h dX2_parseExpression_118)))
set_option maxHeartbeats 4000000 in
theorem w_x2_parseExpression_j103 {z : ZT} {ad : AD} {ek : EK} {lh : Launch} {Dh : va_G} {S' : ST} (C : CX z ad ek cX2_parseExpression RX2 lh Dh 4 5) (E : EV z (cX ad) cX2_parseExpression S') {Kb : ST → Int32 → Int32 → Int32 → Option ST} (hKb : ∀ (S : ST) (l1 : Int32) (l2 : Int32) (l3 : Int32) , Kb S l1 l2 l3 = some S' → XW z (cX ad) 11 [(0, .ref (ad.1 3)), (1, .int l1), (2, .int l2), (3, .int l3)] [] S) {K109 : ST → Int32 → Option ST} (hK109 : ∀ (S : ST) (l1 : Int32) , K109 S l1 = some S' → XW z (cX ad) 109 [(0, .ref (ad.1 3)), (1, .int l1)] [] S) {S : ST} {l1 : Int32} {l2 : Int32} {l3 : Int32} (h : x2_parseExpression_j103 Kb K109 S l1 l2 l3 = some S') : XW z (cX ad) 103 [(0, .ref (ad.1 3)), (1, .int l1), (2, .int l2), (3, .int l3)] [] S := by
  unfold x2_parseExpression_j103 at h
  exact x_iinc C dX2_parseExpression_103 3 rfl ki_1 (by decide) rfl (x_goto C (tgt := 11) dX2_parseExpression_106 (by decide) (x_perm [1, 2, 3, 0] rfl (hKb _ _ _ _ h)))
set_option maxHeartbeats 4000000 in
theorem w_x2_parseExpression_j83 {z : ZT} {ad : AD} {ek : EK} {lh : Launch} {Dh : va_G} {S' : ST} (C : CX z ad ek cX2_parseExpression RX2 lh Dh 4 5) (E : EV z (cX ad) cX2_parseExpression S') {Kb : ST → Int32 → Int32 → Int32 → Option ST} (hKb : ∀ (S : ST) (l1 : Int32) (l2 : Int32) (l3 : Int32) , Kb S l1 l2 l3 = some S' → XW z (cX ad) 11 [(0, .ref (ad.1 3)), (1, .int l1), (2, .int l2), (3, .int l3)] [] S) {K109 : ST → Int32 → Option ST} (hK109 : ∀ (S : ST) (l1 : Int32) , K109 S l1 = some S' → XW z (cX ad) 109 [(0, .ref (ad.1 3)), (1, .int l1)] [] S) {S : ST} {l1 : Int32} {l2 : Int32} {l3 : Int32} {l4 : Int32} {s0 : Int32} (h : x2_parseExpression_j83 Kb K109 S l1 l2 l3 l4 s0 = some S') : XW z (cX ad) 83 [(0, .ref (ad.1 3)), (1, .int l1), (2, .int l2), (3, .int l3), (4, .int l4)] [.int s0, .ref (ad.1 3)] S := by
  unfold x2_parseExpression_j83 at h
  obtain ⟨S83, e83, h⟩ := calV_some h
  refine x_callVv C (c_x2_emitWaiting e83) k_X2_106 (ci := 2) (q0 := 3) rfl rfl (by decide) (Nat.le_of_ble_eq_true rfl) rfl dX2_parseExpression_83 (x_iload_n C dX2_parseExpression_86 rfl 2 rfl (x_if_eq C (tgt := 103) dX2_parseExpression_87 (by decide) (fun c => ?_) (fun c => ?_)))
  · have h := ite_t h c
    exact x_perm [0, 1, 2, 3] rfl (w_x2_parseExpression_j103 C E hKb hK109 h)
  · have h := ite_f h c
    obtain ⟨S93, e93, h⟩ := calV_some h
    obtain ⟨r99, S99, e99, h⟩ := cal_some h
    exact x_aload_n C dX2_parseExpression_90 rfl 0 rfl (x_iload C dX2_parseExpression_91 4 rfl (x_callVv C (c_x2_hold e93) k_X2_109 (ci := 2) (q0 := 3) rfl rfl (by decide) (Nat.le_of_ble_eq_true rfl) rfl dX2_parseExpression_93 (x_aload_n C dX2_parseExpression_96 rfl 0 rfl (x_iload C dX2_parseExpression_97 4 rfl (x_callVi C (c_x2_accept e99) k_X2_49 (ci := 2) (q0 := 3) rfl rfl (by decide) (Nat.le_of_ble_eq_true rfl) rfl dX2_parseExpression_99 (x_pop C dX2_parseExpression_102 rfl (x_perm [0, 1, 2, 3] rfl (w_x2_parseExpression_j103 C E hKb hK109 h))))))))
set_option maxHeartbeats 4000000 in
theorem w_x2_parseExpression_j70 {z : ZT} {ad : AD} {ek : EK} {lh : Launch} {Dh : va_G} {S' : ST} (C : CX z ad ek cX2_parseExpression RX2 lh Dh 4 5) (E : EV z (cX ad) cX2_parseExpression S') {Kb : ST → Int32 → Int32 → Int32 → Option ST} (hKb : ∀ (S : ST) (l1 : Int32) (l2 : Int32) (l3 : Int32) , Kb S l1 l2 l3 = some S' → XW z (cX ad) 11 [(0, .ref (ad.1 3)), (1, .int l1), (2, .int l2), (3, .int l3)] [] S) {K109 : ST → Int32 → Option ST} (hK109 : ∀ (S : ST) (l1 : Int32) , K109 S l1 = some S' → XW z (cX ad) 109 [(0, .ref (ad.1 3)), (1, .int l1)] [] S) {S : ST} {l1 : Int32} {l3 : Int32} {l4 : Int32} {s0 : Int32} (h : x2_parseExpression_j70 Kb K109 S l1 l3 l4 s0 = some S') : XW z (cX ad) 70 [(0, .ref (ad.1 3)), (1, .int l1), (3, .int l3), (4, .int l4)] [.int s0] S := by
  unfold x2_parseExpression_j70 at h
  refine x_istore_n C dX2_parseExpression_70 rfl (by decide) rfl (x_aload_n C dX2_parseExpression_71 rfl 1 rfl (x_iload_n C dX2_parseExpression_72 rfl 0 rfl (x_if_eq C (tgt := 81) dX2_parseExpression_73 (by decide) (fun c => ?_) (fun c => ?_))))
  · have h := ite_t h c
    exact x_bipush C dX2_parseExpression_81 kb_27 (x_perm [1, 2, 0, 3, 4] rfl (w_x2_parseExpression_j83 C E hKb hK109 h))
  · have h := ite_f h c
    exact x_iload C dX2_parseExpression_76 4 rfl (x_goto C (tgt := 83) dX2_parseExpression_78 (by decide) (x_perm [1, 2, 0, 3, 4] rfl (w_x2_parseExpression_j83 C E hKb hK109 h)))
set_option maxHeartbeats 4000000 in
theorem w_x2_parseExpression_j69 {z : ZT} {ad : AD} {ek : EK} {lh : Launch} {Dh : va_G} {S' : ST} (C : CX z ad ek cX2_parseExpression RX2 lh Dh 4 5) (E : EV z (cX ad) cX2_parseExpression S') {Kb : ST → Int32 → Int32 → Int32 → Option ST} (hKb : ∀ (S : ST) (l1 : Int32) (l2 : Int32) (l3 : Int32) , Kb S l1 l2 l3 = some S' → XW z (cX ad) 11 [(0, .ref (ad.1 3)), (1, .int l1), (2, .int l2), (3, .int l3)] [] S) {K109 : ST → Int32 → Option ST} (hK109 : ∀ (S : ST) (l1 : Int32) , K109 S l1 = some S' → XW z (cX ad) 109 [(0, .ref (ad.1 3)), (1, .int l1)] [] S) {S : ST} {l1 : Int32} {l3 : Int32} {l4 : Int32} (h : x2_parseExpression_j69 Kb K109 S l1 l3 l4 = some S') : XW z (cX ad) 69 [(0, .ref (ad.1 3)), (1, .int l1), (3, .int l3), (4, .int l4)] [] S := by
  unfold x2_parseExpression_j69 at h
  exact x_iconst C dX2_parseExpression_69 kc_0 (w_x2_parseExpression_j70 C E hKb hK109 h)
set_option maxHeartbeats 4000000 in
theorem w_x2_parseExpression_h11 {z : ZT} {ad : AD} {ek : EK} {lh : Launch} {Dh : va_G} {S' : ST} (C : CX z ad ek cX2_parseExpression RX2 lh Dh 4 5) (E : EV z (cX ad) cX2_parseExpression S') {K109 : ST → Int32 → Option ST} (hK109 : ∀ (S : ST) (l1 : Int32) , K109 S l1 = some S' → XW z (cX ad) 109 [(0, .ref (ad.1 3)), (1, .int l1)] [] S) : ∀ (n : Nat) (S : ST) (l1 : Int32) (l2 : Int32) (l3 : Int32), x2_parseExpression_h11 K109 n S l1 l2 l3 = some S' → XW z (cX ad) 11 [(0, .ref (ad.1 3)), (1, .int l1), (2, .int l2), (3, .int l3)] [] S := by
  intro n
  induction n with
  | zero => intro S l1 l2 l3 h; cases h
  | succ n ih =>
    intro S l1 l2 l3 h
    have hKb := ih
    refine x_iload_n C dX2_parseExpression_11 rfl 2 rfl (x_if_eq C (tgt := 109) dX2_parseExpression_12 (by decide) (fun c => ?_) (fun c => ?_))
    · have h := ite_t h c
      exact x_perm [0, 1] rfl (hK109 _ _ h)
    · have h := ite_f h c
      refine x_aload_n C dX2_parseExpression_15 rfl 0 rfl (gX_X2_8 C u_1_159 dX2_parseExpression_16 (x_if_ne C (tgt := 109) dX2_parseExpression_19 (by decide) (fun c => ?_) (fun c => ?_)))
      · have h := ite_f h c
        exact x_perm [0, 1] rfl (hK109 _ _ h)
      · have h := ite_t h c
        refine x_iload_n C dX2_parseExpression_22 rfl 3 rfl (x_sipush C dX2_parseExpression_23 ks_400 (x_icmp_gt C (tgt := 109) dX2_parseExpression_26 (by decide) (fun c => ?_) (fun c => ?_)))
        · have h := ite_t h c
          exact x_perm [0, 1] rfl (hK109 _ _ h)
        · have h := ite_f h c
          obtain ⟨r31, S31, e31, h⟩ := cal_some h
          obtain ⟨S36, e36, h⟩ := calV_some h
          obtain ⟨r41, S41, e41, h⟩ := cal_some h
          refine x_aload_n C dX2_parseExpression_29 rfl 0 rfl (x_iload_n C dX2_parseExpression_30 rfl 1 rfl (x_callVi C (c_x2_parseOpenings e31) k_X2_96 (ci := 2) (q0 := 3) rfl rfl (by decide) (Nat.le_of_ble_eq_true rfl) rfl dX2_parseExpression_31 (x_istore_n C dX2_parseExpression_34 rfl (by decide) rfl (x_aload_n C dX2_parseExpression_35 rfl 1 rfl (x_callVv C (c_x2_parseOperand e36) k_X2_100 (ci := 2) (q0 := 3) rfl rfl (by decide) (Nat.le_of_ble_eq_true rfl) rfl dX2_parseExpression_36 (x_aload_n C dX2_parseExpression_39 rfl 1 rfl (x_iload_n C dX2_parseExpression_40 rfl 0 rfl (x_callVi C (c_x2_parseClosings e41) k_X2_103 (ci := 2) (q0 := 3) rfl rfl (by decide) (Nat.le_of_ble_eq_true rfl) rfl dX2_parseExpression_41 (x_istore_n C dX2_parseExpression_44 rfl (by decide) rfl (x_aload_n C dX2_parseExpression_45 rfl 1 rfl (gX_X2_5 C u_1_156 dX2_parseExpression_46 (x_istore C dX2_parseExpression_49 (by decide) rfl (x_iload C dX2_parseExpression_51 0 rfl (x_bipush C dX2_parseExpression_53 kb_27 (x_icmp_lt C (tgt := 69) dX2_parseExpression_55 (by decide) (fun c => ?_) (fun c => ?_))))))))))))))))
          · have h := ite_t h c
            exact x_perm [2, 1, 4, 0] rfl (w_x2_parseExpression_j69 C E hKb hK109 h)
          · have h := ite_f h c
            refine x_iload C dX2_parseExpression_58 0 rfl (x_bipush C dX2_parseExpression_60 kb_30 (x_icmp_gt C (tgt := 69) dX2_parseExpression_62 (by decide) (fun c => ?_) (fun c => ?_)))
            · have h := ite_t h c
              exact x_perm [2, 1, 4, 0] rfl (w_x2_parseExpression_j69 C E hKb hK109 h)
            · have h := ite_f h c
              exact x_iconst C dX2_parseExpression_65 kc_1 (x_goto C (tgt := 70) dX2_parseExpression_66 (by decide) (x_perm [2, 1, 4, 0] rfl (w_x2_parseExpression_j70 C E hKb hK109 h)))
set_option maxHeartbeats 4000000 in
theorem c_x2_parseExpression {ad : AD} {ek : EK} {lh : Launch} {Dh : va_G} {S' : ST}  {S : ST} (h : x2_parseExpression S = some S') : MXv lh Dh ad ek (cX ad) yX2_parseExpression cX2_parseExpression 5 none 4 [.ref (ad.1 3)] S S' := by
  refine mxv_of (by decide) (Nat.le_of_ble_eq_true rfl) (fun z C E => ?_)
  unfold x2_parseExpression at h
  exact x_iconst C dX2_parseExpression_0 kc_0 (x_istore_n C dX2_parseExpression_1 rfl (by decide) rfl (x_iconst C dX2_parseExpression_2 kc_1 (x_istore_n C dX2_parseExpression_3 rfl (by decide) rfl (x_aload_n C dX2_parseExpression_4 rfl 2 rfl (x_iconst C dX2_parseExpression_5 kc_0 (pX_X2_3 C u_1_154 dX2_parseExpression_6 (x_iconst C dX2_parseExpression_9 kc_0 (x_istore_n C dX2_parseExpression_10 rfl (by decide) rfl (x_perm [3, 2, 1, 0] rfl (w_x2_parseExpression_h11 C E (fun _ _ h => w_x2_parseExpression_j109 C E  h) FU _ _ _ _ h))))))))))
set_option maxHeartbeats 4000000 in
theorem w_x5_gather_h41 {z : ZT} {ad : AD} {lh : Launch} {Dh : va_G} {S' : ST} (C : CX z ad (ekX ad) cX5_gather RX5 lh Dh 4 6) (E : EV z (cX ad) cX5_gather S') : ∀ (n : Nat) (S : ST) (l2 : Int32) (l3 : Int32) (l4 : Int32) (l5 : Int32), x5_gather_h41 n S l2 l3 l4 l5 = some S' → XW z (cX ad) 41 [(0, .ref (ad.1 7)), (2, .int l2), (3, .int l3), (4, .int l4), (5, .int l5)] [] S := by
  intro n
  induction n with
  | zero => intro S l2 l3 l4 l5 h; cases h
  | succ n ih =>
    intro S l2 l3 l4 l5 h
    have hKb := ih
    refine x_iload C dX5_gather_41 3 rfl (x_if_eq C (tgt := 66) dX5_gather_43 (by decide) (fun c => ?_) (fun c => ?_))
    · have h := ite_t h c
      exact (by
        exact x_vret E h dX5_gather_66)
    · have h := ite_f h c
      refine x_iload C dX5_gather_46 4 rfl (x_iload_n C dX5_gather_48 rfl 2 rfl (x_icmp_gt C (tgt := 66) dX5_gather_49 (by decide) (fun c => ?_) (fun c => ?_)))
      · have h := ite_t h c
        exact (by
          exact x_vret E h dX5_gather_66)
      · have h := ite_f h c
        obtain ⟨r55, S55, e55, h⟩ := cal_some h
        exact x_aload_n C dX5_gather_52 rfl 0 rfl (x_iload_n C dX5_gather_53 rfl 1 rfl (x_iload_n C dX5_gather_54 rfl 2 rfl (x_callVi C (c_x5_joinOnce e55) k_X5_19 (ci := 5) (q0 := 7) rfl rfl (by decide) (Nat.le_of_ble_eq_true rfl) rfl dX5_gather_55 (x_istore C dX5_gather_58 (by decide) rfl (x_iinc C dX5_gather_60 4 rfl ki_1 (by decide) rfl (x_goto C (tgt := 41) dX5_gather_63 (by decide) (x_perm [2, 3, 4, 1, 0] rfl (hKb _ _ _ _ _ h))))))))
set_option maxHeartbeats 4000000 in
theorem w_x5_gather_j35 {z : ZT} {ad : AD} {lh : Launch} {Dh : va_G} {S' : ST} (C : CX z ad (ekX ad) cX5_gather RX5 lh Dh 4 6) (E : EV z (cX ad) cX5_gather S') {S : ST} {l2 : Int32} {l3 : Int32} (h : x5_gather_j35 S l2 l3 = some S') : XW z (cX ad) 35 [(0, .ref (ad.1 7)), (2, .int l2), (3, .int l3)] [] S := by
  unfold x5_gather_j35 at h
  exact x_iconst C dX5_gather_35 kc_1 (x_istore C dX5_gather_36 (by decide) rfl (x_iconst C dX5_gather_38 kc_0 (x_istore C dX5_gather_39 (by decide) rfl (x_perm [2, 3, 4, 1, 0] rfl (w_x5_gather_h41 C E FU _ _ _ _ _ h)))))
set_option maxHeartbeats 4000000 in
theorem w_x5_gather_j28 {z : ZT} {ad : AD} {lh : Launch} {Dh : va_G} {S' : ST} (C : CX z ad (ekX ad) cX5_gather RX5 lh Dh 4 6) (E : EV z (cX ad) cX5_gather S') {Kb : ST → Int32 → Int32 → Int32 → Int32 → Option ST} (hKb : ∀ (S : ST) (l1 : Int32) (l2 : Int32) (l3 : Int32) (l4 : Int32) , Kb S l1 l2 l3 l4 = some S' → XW z (cX ad) 3 [(0, .ref (ad.1 7)), (1, .int l1), (2, .int l2), (3, .int l3), (4, .int l4)] [] S) {K35 : ST → Int32 → Int32 → Option ST} (hK35 : ∀ (S : ST) (l2 : Int32) (l3 : Int32) , K35 S l2 l3 = some S' → XW z (cX ad) 35 [(0, .ref (ad.1 7)), (2, .int l2), (3, .int l3)] [] S) {S : ST} {l1 : Int32} {l2 : Int32} {l3 : Int32} {l4 : Int32} {s0 : Int32} {s1 : Int32} (h : x5_gather_j28 Kb K35 S l1 l2 l3 l4 s0 s1 = some S') : XW z (cX ad) 28 [(0, .ref (ad.1 7)), (1, .int l1), (2, .int l2), (3, .int l3), (4, .int l4)] [.int s0, .int s1, .ref (ad.1 38)] S := by
  unfold x5_gather_j28 at h
  obtain ⟨g28, h⟩ := G_some h
  exact sX_38 C g28 dX5_gather_28 (x_iinc C dX5_gather_29 4 rfl ki_1 (by decide) rfl (x_goto C (tgt := 3) dX5_gather_32 (by decide) (x_perm [1, 2, 3, 4, 0] rfl (hKb _ _ _ _ _ h))))
set_option maxHeartbeats 4000000 in
theorem w_x5_gather_h3 {z : ZT} {ad : AD} {lh : Launch} {Dh : va_G} {S' : ST} (C : CX z ad (ekX ad) cX5_gather RX5 lh Dh 4 6) (E : EV z (cX ad) cX5_gather S') {K35 : ST → Int32 → Int32 → Option ST} (hK35 : ∀ (S : ST) (l2 : Int32) (l3 : Int32) , K35 S l2 l3 = some S' → XW z (cX ad) 35 [(0, .ref (ad.1 7)), (2, .int l2), (3, .int l3)] [] S) : ∀ (n : Nat) (S : ST) (l1 : Int32) (l2 : Int32) (l3 : Int32) (l4 : Int32), x5_gather_h3 K35 n S l1 l2 l3 l4 = some S' → XW z (cX ad) 3 [(0, .ref (ad.1 7)), (1, .int l1), (2, .int l2), (3, .int l3), (4, .int l4)] [] S := by
  intro n
  induction n with
  | zero => intro S l1 l2 l3 l4 h; cases h
  | succ n ih =>
    intro S l1 l2 l3 l4 h
    have hKb := ih
    refine x_iload C dX5_gather_3 4 rfl (x_sipush C dX5_gather_5 ks_1000 (x_icmp_ge C (tgt := 35) dX5_gather_8 (by decide) (fun c => ?_) (fun c => ?_)))
    · have h := ite_t h c
      exact x_perm [0, 2, 3] rfl (hK35 _ _ _ h)
    · have h := ite_f h c
      refine x_aload_n C dX5_gather_11 rfl 0 rfl (gX_X5_1 C u_2_56 dX5_gather_12 (x_iload C dX5_gather_15 4 rfl (x_iload C dX5_gather_17 4 rfl (x_iload_n C dX5_gather_19 rfl 1 rfl (x_icmp_ne C (tgt := 27) dX5_gather_20 (by decide) (fun c => ?_) (fun c => ?_))))))
      · have h := ite_f h c
        exact x_iconst C dX5_gather_27 kc_0 (w_x5_gather_j28 C E hKb hK35 h)
      · have h := ite_t h c
        exact x_iconst C dX5_gather_23 kc_1 (x_goto C (tgt := 28) dX5_gather_24 (by decide) (w_x5_gather_j28 C E hKb hK35 h))
set_option maxHeartbeats 4000000 in
theorem c_x5_gather {ad : AD} {lh : Launch} {Dh : va_G} {S' : ST}  {S : ST} {l1 : Int32} {l2 : Int32} {l3 : Int32} (h : x5_gather S l1 l2 l3 = some S') : MXv lh Dh ad (ekX ad) (cX ad) yX5_gather cX5_gather 6 none 4 [.ref (ad.1 7), .int l1, .int l2, .int l3] S S' := by
  refine mxv_of (by decide) (Nat.le_of_ble_eq_true rfl) (fun z C E => ?_)
  unfold x5_gather at h
  exact x_iconst C dX5_gather_0 kc_0 (x_istore C dX5_gather_1 (by decide) rfl (x_perm [1, 2, 3, 4, 0] rfl (w_x5_gather_h3 C E (fun _ _ _ h => w_x5_gather_j35 C E  h) FU _ _ _ _ _ h)))
set_option maxHeartbeats 4000000 in
theorem c_x7_closeText {ad : AD} {ek : EK} {lh : Launch} {Dh : va_G} {S' : ST}  {S : ST} {l1 : Int32} (h : x7_closeText S l1 = some S') : MXv lh Dh ad ek (cX ad) yX7_closeText cX7_closeText 2 none 4 [.ref (ad.1 2), .int l1] S S' := by
  refine mxv_of (by decide) (Nat.le_of_ble_eq_true rfl) (fun z C E => ?_)
  unfold x7_closeText at h
  refine x_aload_n C dX7_closeText_0 rfl 0 rfl (gX_X7_15 C u_1_87 dX7_closeText_1 (x_if_lt C (tgt := 16) dX7_closeText_4 (by decide) (fun c => ?_) (fun c => ?_)))
  · have h := ite_t h c
    exact x_vret E h dX7_closeText_16
  · have h := ite_f h c
    refine x_aload_n C dX7_closeText_7 rfl 0 rfl (gX_X7_15 C u_1_87 dX7_closeText_8 (x_bipush C dX7_closeText_11 kb_6 (x_icmp_lt C (tgt := 17) dX7_closeText_13 (by decide) (fun c => ?_) (fun c => ?_))))
    · have h := ite_t h c
      obtain ⟨g26, h⟩ := G_some h
      obtain ⟨g39, h⟩ := G_some h
      obtain ⟨S51, e51, h⟩ := calV_some h
      exact x_aload_n C dX7_closeText_17 rfl 0 rfl (gX_X7_8 C u_1_80 dX7_closeText_18 (x_aload_n C dX7_closeText_21 rfl 0 rfl (gX_X7_15 C u_1_87 dX7_closeText_22 (x_iload_n C dX7_closeText_25 rfl 1 rfl (sX_21 C g26 dX7_closeText_26 (x_aload_n C dX7_closeText_27 rfl 0 rfl (gX_X7_9 C u_1_81 dX7_closeText_28 (x_aload_n C dX7_closeText_31 rfl 0 rfl (gX_X7_15 C u_1_87 dX7_closeText_32 (x_aload_n C dX7_closeText_35 rfl 0 rfl (gX_X7_14 C u_1_86 dX7_closeText_36 (sX_22 C g39 dX7_closeText_39 (x_aload_n C dX7_closeText_40 rfl 0 rfl (x_dup C dX7_closeText_41 rfl (gX_X7_15 C u_1_87 dX7_closeText_42 (x_iconst C dX7_closeText_45 kc_1 (x_iadd C dX7_closeText_46 (pX_X7_15 C u_1_87 dX7_closeText_47 (x_aload_n C dX7_closeText_50 rfl 0 rfl (x_callVv C (c_x7_enforceAll e51) k_X7_66 (ci := 7) (q0 := 2) rfl rfl (by decide) (Nat.le_of_ble_eq_true rfl) rfl dX7_closeText_51 (x_vret E h dX7_closeText_54)))))))))))))))))))))
    · have h := ite_f h c
      exact x_vret E h dX7_closeText_16
set_option maxHeartbeats 4000000 in
theorem w_x7_firstThatHolds_j81 {z : ZT} {ad : AD} {ek : EK} {lh : Launch} {Dh : va_G} {r : Int32} {S' : ST} (C : CX z ad ek cX7_firstThatHolds RX7 lh Dh 4 7) (E : EI z (cX ad) cX7_firstThatHolds (some .int) r S') {Kb : ST → Int32 → Int32 → Int32 → Option (Int32 × ST)} (hKb : ∀ (S : ST) (l1 : Int32) (l4 : Int32) (l5 : Int32) , Kb S l1 l4 l5 = some (r, S') → XW z (cX ad) 10 [(0, .ref (ad.1 2)), (1, .int l1), (3, .ref (ad.1 36)), (4, .int l4), (5, .int l5)] [] S) {S : ST} {l1 : Int32} {l4 : Int32} {l5 : Int32} (h : x7_firstThatHolds_j81 Kb S l1 l4 l5 = some (r, S')) : XW z (cX ad) 81 [(0, .ref (ad.1 2)), (1, .int l1), (3, .ref (ad.1 36)), (4, .int l4), (5, .int l5)] [] S := by
  unfold x7_firstThatHolds_j81 at h
  exact x_iinc C dX7_firstThatHolds_81 4 rfl ki_1 (by decide) rfl (x_goto C (tgt := 10) dX7_firstThatHolds_84 (by decide) (x_perm [1, 2, 3, 4, 0] rfl (hKb _ _ _ _ h)))
set_option maxHeartbeats 4000000 in
theorem w_x7_firstThatHolds_h10 {z : ZT} {ad : AD} {ek : EK} {lh : Launch} {Dh : va_G} {r : Int32} {S' : ST} (C : CX z ad ek cX7_firstThatHolds RX7 lh Dh 4 7) (E : EI z (cX ad) cX7_firstThatHolds (some .int) r S') : ∀ (n : Nat) (S : ST) (l1 : Int32) (l4 : Int32) (l5 : Int32), x7_firstThatHolds_h10 n S l1 l4 l5 = some (r, S') → XW z (cX ad) 10 [(0, .ref (ad.1 2)), (1, .int l1), (3, .ref (ad.1 36)), (4, .int l4), (5, .int l5)] [] S := by
  intro n
  induction n with
  | zero => intro S l1 l4 l5 h; cases h
  | succ n ih =>
    intro S l1 l4 l5 h
    have hKb := ih
    obtain ⟨g18, h⟩ := G_some h
    refine x_iload C dX7_firstThatHolds_10 4 rfl (x_aload_n C dX7_firstThatHolds_12 rfl 0 rfl (gX_X7_11 C u_1_83 dX7_firstThatHolds_13 (x_iload C dX7_firstThatHolds_16 3 rfl (aX_24 C g18 dX7_firstThatHolds_18 (x_icmp_ge C (tgt := 87) dX7_firstThatHolds_19 (by decide) (fun c => ?_) (fun c => ?_))))))
    · have h := ite_t h c
      exact (by
        exact x_bipush C dX7_firstThatHolds_87 kb_m2 (x_iret E h retI dX7_firstThatHolds_89))
    · have h := ite_f h c
      obtain ⟨g35, h⟩ := G_some h
      obtain ⟨g44, h⟩ := G_some h
      refine x_aload_n C dX7_firstThatHolds_22 rfl 0 rfl (gX_X7_10 C u_1_82 dX7_firstThatHolds_23 (x_iload C dX7_firstThatHolds_26 3 rfl (x_sipush C dX7_firstThatHolds_28 ks_144 (x_imul C dX7_firstThatHolds_31 (x_iload C dX7_firstThatHolds_32 4 rfl (x_iadd C dX7_firstThatHolds_34 (aX_23 C g35 dX7_firstThatHolds_35 (x_istore C dX7_firstThatHolds_36 (by decide) rfl (x_aload_n C dX7_firstThatHolds_38 rfl 1 rfl (gX_X7_1 C u_1_70 dX7_firstThatHolds_39 (x_iload C dX7_firstThatHolds_42 0 rfl (aX_14 C g44 dX7_firstThatHolds_44 (x_iload_n C dX7_firstThatHolds_45 rfl 2 rfl (x_icmp_ne C (tgt := 81) dX7_firstThatHolds_46 (by decide) (fun c => ?_) (fun c => ?_)))))))))))))))
      · have h := ite_f h c
        exact x_perm [1, 2, 3, 4, 5] rfl (w_x7_firstThatHolds_j81 C E hKb h)
      · have h := ite_t h c
        obtain ⟨g63, h⟩ := G_some h
        obtain ⟨g70, h⟩ := G_some h
        obtain ⟨r72, S72, e72, h⟩ := cal_some h
        refine x_aload_n C dX7_firstThatHolds_49 rfl 1 rfl (gX_X7_12 C u_1_84 dX7_firstThatHolds_50 (x_aload_n C dX7_firstThatHolds_53 rfl 1 rfl (gX_X7_0 C u_1_69 dX7_firstThatHolds_54 (x_aload_n C dX7_firstThatHolds_57 rfl 1 rfl (gX_X7_6 C u_1_78 dX7_firstThatHolds_58 (x_iload C dX7_firstThatHolds_61 0 rfl (aX_19 C g63 dX7_firstThatHolds_63 (x_aload_n C dX7_firstThatHolds_64 rfl 1 rfl (gX_X7_7 C u_1_79 dX7_firstThatHolds_65 (x_iload C dX7_firstThatHolds_68 0 rfl (aX_20 C g70 dX7_firstThatHolds_70 (x_aload_n C dX7_firstThatHolds_71 rfl 3 rfl (x_callVi C (c_x4_work e72) k_X7_90 (ci := 4) (q0 := 10) rfl rfl (by decide) (Nat.le_of_ble_eq_true rfl) rfl dX7_firstThatHolds_72 (x_if_eq C (tgt := 81) dX7_firstThatHolds_75 (by decide) (fun c => ?_) (fun c => ?_)))))))))))))))
        · have h := ite_t h c
          exact x_perm [1, 2, 3, 4, 5] rfl (w_x7_firstThatHolds_j81 C E hKb h)
        · have h := ite_f h c
          exact (by
            exact x_iload C dX7_firstThatHolds_78 5 rfl (x_iret E h retI dX7_firstThatHolds_80))
set_option maxHeartbeats 4000000 in
theorem c_x7_firstThatHolds {ad : AD} {ek : EK} {lh : Launch} {Dh : va_G} {r : Int32} {S' : ST}  {S : ST} {l1 : Int32} {l2 : Int32} (h : x7_firstThatHolds S l1 l2 = some (r, S')) : MXi lh Dh ad ek (cX ad) yX7_firstThatHolds cX7_firstThatHolds 7 (some .int) 4 [.ref (ad.1 2), .int l1, .int l2, .ref (ad.1 36)] S r S' := by
  refine mxi_of (by decide) (Nat.le_of_ble_eq_true rfl) (fun z C E => ?_)
  unfold x7_firstThatHolds at h
  obtain ⟨r2, S2, e2, h⟩ := cal_some h
  exact x_aload_n C dX7_firstThatHolds_0 rfl 0 rfl (x_iload_n C dX7_firstThatHolds_1 rfl 2 rfl (x_callVi C (c_x7_levelOn e2) k_X7_86 (ci := 7) (q0 := 2) rfl rfl (by decide) (Nat.le_of_ble_eq_true rfl) rfl dX7_firstThatHolds_2 (x_istore C dX7_firstThatHolds_5 (by decide) rfl (x_iconst C dX7_firstThatHolds_7 kc_0 (x_istore C dX7_firstThatHolds_8 (by decide) rfl (x_perm [2, 3, 5, 1, 0] rfl (w_x7_firstThatHolds_h10 C E FU _ _ _ _ h)))))))
set_option maxHeartbeats 4000000 in
theorem c_x7_valueOf {ad : AD} {ek : EK} {lh : Launch} {Dh : va_G} {r : Int32} {S' : ST}  {S : ST} {l1 : Int32} {l2 : Int32} (h : x7_valueOf S l1 l2 = some (r, S')) : MXi lh Dh ad ek (cX ad) yX7_valueOf cX7_valueOf 5 (some .int) 4 [.ref (ad.1 2), .int l1, .int l2, .ref (ad.1 36)] S r S' := by
  refine mxi_of (by decide) (Nat.le_of_ble_eq_true rfl) (fun z C E => ?_)
  unfold x7_valueOf at h
  obtain ⟨r3, S3, e3, h⟩ := cal_some h
  refine x_aload_n C dX7_valueOf_0 rfl 0 rfl (x_iload_n C dX7_valueOf_1 rfl 1 rfl (x_iload_n C dX7_valueOf_2 rfl 2 rfl (x_callVi C (c_x7_inForceAt e3) k_X7_94 (ci := 7) (q0 := 2) rfl rfl (by decide) (Nat.le_of_ble_eq_true rfl) rfl dX7_valueOf_3 (x_istore C dX7_valueOf_6 (by decide) rfl (x_iload C dX7_valueOf_8 0 rfl (x_iconst C dX7_valueOf_10 kc_m1 (x_icmp_ne C (tgt := 16) dX7_valueOf_11 (by decide) (fun c => ?_) (fun c => ?_))))))))
  · have h := ite_f h c
    obtain ⟨g30, h⟩ := G_some h
    obtain ⟨g37, h⟩ := G_some h
    obtain ⟨r39, S39, e39, h⟩ := cal_some h
    obtain ⟨r47, S47, e47, h⟩ := cal_some h
    exact x_aload_n C dX7_valueOf_16 rfl 1 rfl (gX_X7_12 C u_1_84 dX7_valueOf_17 (x_aload_n C dX7_valueOf_20 rfl 1 rfl (gX_X7_0 C u_1_69 dX7_valueOf_21 (x_aload_n C dX7_valueOf_24 rfl 1 rfl (gX_X7_5 C u_1_77 dX7_valueOf_25 (x_iload C dX7_valueOf_28 0 rfl (aX_18 C g30 dX7_valueOf_30 (x_aload_n C dX7_valueOf_31 rfl 1 rfl (gX_X7_6 C u_1_78 dX7_valueOf_32 (x_iload C dX7_valueOf_35 0 rfl (aX_19 C g37 dX7_valueOf_37 (x_aload_n C dX7_valueOf_38 rfl 4 rfl (x_callVi C (c_x4_work e39) k_X7_90 (ci := 4) (q0 := 10) rfl rfl (by decide) (Nat.le_of_ble_eq_true rfl) rfl dX7_valueOf_39 (x_pop C dX7_valueOf_42 rfl (x_aload_n C dX7_valueOf_43 rfl 1 rfl (gX_X7_12 C u_1_84 dX7_valueOf_44 (x_callVi C (c_x4_result e47) k_X7_98 (ci := 4) (q0 := 10) rfl rfl (by decide) (Nat.le_of_ble_eq_true rfl) rfl dX7_valueOf_47 (x_iret E h retI dX7_valueOf_50))))))))))))))))))
  · have h := ite_t h c
    exact x_iconst C dX7_valueOf_14 kc_0 (x_iret E h retI dX7_valueOf_15)
set_option maxHeartbeats 4000000 in
theorem c_x8_moreHeard {ad : AD} {ek : EK} {lh : Launch} {Dh : va_G} {r : Int32} {S' : ST}  {S : ST} {l1 : Int32} {l2 : Int32} (h : x8_moreHeard S l1 l2 = some (r, S')) : MXi lh Dh ad ek (cX ad) yX8_moreHeard cX8_moreHeard 3 (some .int) 4 [.ref (ad.1 8), .int l1, .int l2] S r S' := by
  refine mxi_of (by decide) (Nat.le_of_ble_eq_true rfl) (fun z C E => ?_)
  unfold x8_moreHeard at h
  obtain ⟨r2, S2, e2, h⟩ := cal_some h
  obtain ⟨r7, S7, e7, h⟩ := cal_some h
  refine x_aload_n C dX8_moreHeard_0 rfl 0 rfl (x_iload_n C dX8_moreHeard_1 rfl 2 rfl (x_callVi C (c_x8_timesOnTape e2) k_X8_44 (ci := 8) (q0 := 8) rfl rfl (by decide) (Nat.le_of_ble_eq_true rfl) rfl dX8_moreHeard_2 (x_aload_n C dX8_moreHeard_5 rfl 0 rfl (x_iload_n C dX8_moreHeard_6 rfl 1 rfl (x_callVi C (c_x8_timesOnTape e7) k_X8_44 (ci := 8) (q0 := 8) rfl rfl (by decide) (Nat.le_of_ble_eq_true rfl) rfl dX8_moreHeard_7 (x_icmp_le C (tgt := 17) dX8_moreHeard_10 (by decide) (fun c => ?_) (fun c => ?_)))))))
  · have h := ite_t h c
    exact x_iload_n C dX8_moreHeard_17 rfl 1 rfl (x_iret E h retI dX8_moreHeard_18)
  · have h := ite_f h c
    exact x_iload_n C dX8_moreHeard_13 rfl 2 rfl (x_goto C (tgt := 18) dX8_moreHeard_14 (by decide) (x_iret E h retI dX8_moreHeard_18))
set_option maxHeartbeats 4000000 in
theorem w_x8_overlap_h16 {z : ZT} {ad : AD} {ek : EK} {lh : Launch} {Dh : va_G} {r : Int32} {S' : ST} (C : CX z ad ek cX8_overlap RX8 lh Dh 4 2) (E : EI z (cX ad) cX8_overlap (some .int) r S') : ∀ (n : Nat) (S : ST) (l1 : Int32), x8_overlap_h16 n S l1 = some (r, S') → XW z (cX ad) 16 [(0, .ref (ad.1 8)), (1, .int l1)] [] S := by
  intro n
  induction n with
  | zero => intro S l1 h; cases h
  | succ n ih =>
    intro S l1 h
    have hKb := ih
    refine x_iload_n C dX8_overlap_16 rfl 1 rfl (x_if_le C (tgt := 39) dX8_overlap_17 (by decide) (fun c => ?_) (fun c => ?_))
    · have h := ite_t h c
      exact (by
        exact x_iconst C dX8_overlap_39 kc_0 (x_iret E h retI dX8_overlap_40))
    · have h := ite_f h c
      obtain ⟨r22, S22, e22, h⟩ := cal_some h
      refine x_aload_n C dX8_overlap_20 rfl 0 rfl (x_iload_n C dX8_overlap_21 rfl 1 rfl (x_callVi C (c_x8_differences e22) k_X8_31 (ci := 8) (q0 := 8) rfl rfl (by decide) (Nat.le_of_ble_eq_true rfl) rfl dX8_overlap_22 (x_iload_n C dX8_overlap_25 rfl 1 rfl (x_iconst C dX8_overlap_26 kc_3 (x_idiv C dX8_overlap_27 (by decide) (x_icmp_gt C (tgt := 33) dX8_overlap_28 (by decide) (fun c => ?_) (fun c => ?_)))))))
      · have h := ite_t h c
        exact x_iinc C dX8_overlap_33 1 rfl ki_m1 (by decide) rfl (x_goto C (tgt := 16) dX8_overlap_36 (by decide) (x_perm [1, 0] rfl (hKb _ _ h)))
      · have h := ite_f h c
        exact (by
          exact x_iload_n C dX8_overlap_31 rfl 1 rfl (x_iret E h retI dX8_overlap_32))
set_option maxHeartbeats 4000000 in
theorem c_x8_overlap {ad : AD} {ek : EK} {lh : Launch} {Dh : va_G} {r : Int32} {S' : ST}  {S : ST} (h : x8_overlap S = some (r, S')) : MXi lh Dh ad ek (cX ad) yX8_overlap cX8_overlap 2 (some .int) 4 [.ref (ad.1 8)] S r S' := by
  refine mxi_of (by decide) (Nat.le_of_ble_eq_true rfl) (fun z C E => ?_)
  unfold x8_overlap at h
  obtain ⟨g5, h⟩ := G_some h
  obtain ⟨g11, h⟩ := G_some h
  exact x_aload_n C dX8_overlap_0 rfl 0 rfl (gX_X8_1 C u_2_93 dX8_overlap_1 (x_iconst C dX8_overlap_4 kc_0 (aX_40 C g5 dX8_overlap_5 (x_aload_n C dX8_overlap_6 rfl 0 rfl (gX_X8_1 C u_2_93 dX8_overlap_7 (x_iconst C dX8_overlap_10 kc_1 (aX_40 C g11 dX8_overlap_11 (x_mmin C u_4_175 (by decide) (Nat.le_of_ble_eq_true rfl) dX8_overlap_12 (x_istore_n C dX8_overlap_15 rfl (by decide) rfl (x_perm [1, 0] rfl (w_x8_overlap_h16 C E FU _ _ h)))))))))))
set_option maxHeartbeats 4000000 in
theorem c_x11_join {ad : AD} {ek : EK} {lh : Launch} {Dh : va_G} {r : Int32} {S' : ST}  {S : ST} (h : x11_join S = some (r, S')) : MXi lh Dh ad ek (cX ad) yX11_join cX11_join 1 (some .int) 5 [.ref (ad.1 0)] S r S' := by
  refine mxi_of (by decide) (Nat.le_of_ble_eq_true rfl) (fun z C E => ?_)
  unfold x11_join at h
  obtain ⟨r4, S4, e4, h⟩ := cal_some h
  exact x_aload_n C dX11_join_0 rfl 0 rfl (gX_X11_7 C u_2_146 dX11_join_1 (x_callVi C (c_x8_overlap e4) k_X11_216 (ci := 8) (q0 := 8) rfl rfl (by decide) (Nat.le_of_ble_eq_true rfl) rfl dX11_join_4 (x_iret E h retI dX11_join_7)))
set_option maxHeartbeats 4000000 in
theorem c_x11_same {ad : AD} {lh : Launch} {Dh : va_G} {r : Int32} {S' : ST}  {S : ST} {l1 : Int32} {l2 : Int32} {l3 : Int32} {l4 : Int32} (h : x11_same S l1 l2 l3 l4 = some (r, S')) : MXi lh Dh ad (ekX ad) (cX ad) yX11_same cX11_same 5 (some .int) 5 [.ref (ad.1 0), .int l1, .int l2, .int l3, .int l4] S r S' := by
  refine mxi_of (by decide) (Nat.le_of_ble_eq_true rfl) (fun z C E => ?_)
  unfold x11_same at h
  obtain ⟨r1, e1, h⟩ := cal0_some h
  refine x_iload_n C dX11_same_0 rfl 1 rfl (x_callSi C (c_x11_isWord e1) k_X11_105 (by decide) (Nat.le_of_ble_eq_true rfl) rfl dX11_same_1 (x_if_eq C (tgt := 32) dX11_same_4 (by decide) (fun c => ?_) (fun c => ?_)))
  · have h := ite_t h c
    exact x_iconst C dX11_same_32 kc_m1 (x_iret E h retI dX11_same_33)
  · have h := ite_f h c
    obtain ⟨r8, e8, h⟩ := cal0_some h
    refine x_iload_n C dX11_same_7 rfl 2 rfl (x_callSi C (c_x11_isWord e8) k_X11_105 (by decide) (Nat.le_of_ble_eq_true rfl) rfl dX11_same_8 (x_if_eq C (tgt := 32) dX11_same_11 (by decide) (fun c => ?_) (fun c => ?_)))
    · have h := ite_t h c
      exact x_iconst C dX11_same_32 kc_m1 (x_iret E h retI dX11_same_33)
    · have h := ite_f h c
      obtain ⟨r17, e17, h⟩ := cal0_some h
      refine x_iload_n C dX11_same_14 rfl 3 rfl (x_bipush C dX11_same_15 kb_100 (x_callSi C (c_x11_isBelow e17) k_X11_113 (by decide) (Nat.le_of_ble_eq_true rfl) rfl dX11_same_17 (x_if_eq C (tgt := 32) dX11_same_20 (by decide) (fun c => ?_) (fun c => ?_))))
      · have h := ite_t h c
        exact x_iconst C dX11_same_32 kc_m1 (x_iret E h retI dX11_same_33)
      · have h := ite_f h c
        obtain ⟨r26, S26, e26, h⟩ := cal_some h
        refine x_aload_n C dX11_same_23 rfl 0 rfl (x_iload C dX11_same_24 4 rfl (x_callVi C (c_x11_isKnown e26) k_X11_165 (ci := 11) (q0 := 0) rfl rfl (by decide) (Nat.le_of_ble_eq_true rfl) rfl dX11_same_26 (x_if_ne C (tgt := 34) dX11_same_29 (by decide) (fun c => ?_) (fun c => ?_))))
        · have h := ite_f h c
          obtain ⟨S42, e42, h⟩ := calV_some h
          obtain ⟨r50, S50, e50, h⟩ := cal_some h
          refine x_aload_n C dX11_same_34 rfl 0 rfl (gX_X11_6 C u_2_145 dX11_same_35 (x_iload_n C dX11_same_38 rfl 1 rfl (x_iload_n C dX11_same_39 rfl 3 rfl (x_iload C dX11_same_40 4 rfl (x_callVv C (c_x5_gather e42) k_X11_249 (ci := 5) (q0 := 7) rfl rfl (by decide) (Nat.le_of_ble_eq_true rfl) rfl dX11_same_42 (x_aload_n C dX11_same_45 rfl 0 rfl (gX_X11_6 C u_2_145 dX11_same_46 (x_iload_n C dX11_same_49 rfl 2 rfl (x_callVi C (c_x5_gathered e50) k_X11_252 (ci := 5) (q0 := 7) rfl rfl (by decide) (Nat.le_of_ble_eq_true rfl) rfl dX11_same_50 (x_if_eq C (tgt := 60) dX11_same_53 (by decide) (fun c => ?_) (fun c => ?_)))))))))))
          · have h := ite_t h c
            exact x_iconst C dX11_same_60 kc_0 (x_iret E h retI dX11_same_61)
          · have h := ite_f h c
            exact x_iconst C dX11_same_56 kc_1 (x_goto C (tgt := 61) dX11_same_57 (by decide) (x_iret E h retI dX11_same_61))
        · have h := ite_t h c
          exact x_iconst C dX11_same_32 kc_m1 (x_iret E h retI dX11_same_33)
set_option maxHeartbeats 4000000 in
theorem w_x2_parseCondition_j135 {z : ZT} {ad : AD} {ek : EK} {lh : Launch} {Dh : va_G} {S' : ST} (C : CX z ad ek cX2_parseCondition RX2 lh Dh 5 5) (E : EV z (cX ad) cX2_parseCondition S') {Kb : ST → Int32 → Int32 → Option ST} (hKb : ∀ (S : ST) (l1 : Int32) (l2 : Int32) , Kb S l1 l2 = some S' → XW z (cX ad) 4 [(0, .ref (ad.1 3)), (1, .int l1), (2, .int l2)] [] S) {S : ST} {l2 : Int32} {s0 : Int32} (h : x2_parseCondition_j135 Kb S l2 s0 = some S') : XW z (cX ad) 135 [(0, .ref (ad.1 3)), (2, .int l2)] [.int s0] S := by
  unfold x2_parseCondition_j135 at h
  exact x_istore_n C dX2_parseCondition_135 rfl (by decide) rfl (x_iinc C dX2_parseCondition_136 2 rfl ki_1 (by decide) rfl (x_goto C (tgt := 4) dX2_parseCondition_139 (by decide) (x_perm [2, 1, 0] rfl (hKb _ _ _ h))))
set_option maxHeartbeats 4000000 in
theorem w_x2_parseCondition_j134 {z : ZT} {ad : AD} {ek : EK} {lh : Launch} {Dh : va_G} {S' : ST} (C : CX z ad ek cX2_parseCondition RX2 lh Dh 5 5) (E : EV z (cX ad) cX2_parseCondition S') {Kb : ST → Int32 → Int32 → Option ST} (hKb : ∀ (S : ST) (l1 : Int32) (l2 : Int32) , Kb S l1 l2 = some S' → XW z (cX ad) 4 [(0, .ref (ad.1 3)), (1, .int l1), (2, .int l2)] [] S) {S : ST} {l2 : Int32} (h : x2_parseCondition_j134 Kb S l2 = some S') : XW z (cX ad) 134 [(0, .ref (ad.1 3)), (2, .int l2)] [] S := by
  unfold x2_parseCondition_j134 at h
  exact x_iconst C dX2_parseCondition_134 kc_0 (w_x2_parseCondition_j135 C E hKb h)
set_option maxHeartbeats 4000000 in
theorem w_x2_parseCondition_j119 {z : ZT} {ad : AD} {ek : EK} {lh : Launch} {Dh : va_G} {S' : ST} (C : CX z ad ek cX2_parseCondition RX2 lh Dh 5 5) (E : EV z (cX ad) cX2_parseCondition S') {Kb : ST → Int32 → Int32 → Option ST} (hKb : ∀ (S : ST) (l1 : Int32) (l2 : Int32) , Kb S l1 l2 = some S' → XW z (cX ad) 4 [(0, .ref (ad.1 3)), (1, .int l1), (2, .int l2)] [] S) {S : ST} {l2 : Int32} (h : x2_parseCondition_j119 Kb S l2 = some S') : XW z (cX ad) 119 [(0, .ref (ad.1 3)), (2, .int l2)] [] S := by
  unfold x2_parseCondition_j119 at h
  obtain ⟨r124, S124, e124, h⟩ := cal_some h
  refine x_aload_n C dX2_parseCondition_119 rfl 0 rfl (x_aload_n C dX2_parseCondition_120 rfl 0 rfl (gX_X2_5 C u_1_156 dX2_parseCondition_121 (x_callVi C (c_x2_accept e124) k_X2_49 (ci := 2) (q0 := 3) rfl rfl (by decide) (Nat.le_of_ble_eq_true rfl) rfl dX2_parseCondition_124 (x_if_eq C (tgt := 134) dX2_parseCondition_127 (by decide) (fun c => ?_) (fun c => ?_)))))
  · have h := ite_t h c
    exact w_x2_parseCondition_j134 C E hKb h
  · have h := ite_f h c
    exact x_iconst C dX2_parseCondition_130 kc_1 (x_goto C (tgt := 135) dX2_parseCondition_131 (by decide) (w_x2_parseCondition_j135 C E hKb h))
set_option maxHeartbeats 4000000 in
theorem w_x2_parseCondition_j103 {z : ZT} {ad : AD} {ek : EK} {lh : Launch} {Dh : va_G} {S' : ST} (C : CX z ad ek cX2_parseCondition RX2 lh Dh 5 5) (E : EV z (cX ad) cX2_parseCondition S') {Kb : ST → Int32 → Int32 → Option ST} (hKb : ∀ (S : ST) (l1 : Int32) (l2 : Int32) , Kb S l1 l2 = some S' → XW z (cX ad) 4 [(0, .ref (ad.1 3)), (1, .int l1), (2, .int l2)] [] S) {S : ST} {l2 : Int32} (h : x2_parseCondition_j103 Kb S l2 = some S') : XW z (cX ad) 103 [(0, .ref (ad.1 3)), (2, .int l2)] [] S := by
  unfold x2_parseCondition_j103 at h
  refine x_aload_n C dX2_parseCondition_103 rfl 0 rfl (gX_X2_5 C u_1_156 dX2_parseCondition_104 (x_iconst C dX2_parseCondition_107 kc_4 (x_icmp_eq C (tgt := 119) dX2_parseCondition_108 (by decide) (fun c => ?_) (fun c => ?_))))
  · have h := ite_t h c
    exact w_x2_parseCondition_j119 C E hKb h
  · have h := ite_f h c
    refine x_aload_n C dX2_parseCondition_111 rfl 0 rfl (gX_X2_5 C u_1_156 dX2_parseCondition_112 (x_iconst C dX2_parseCondition_115 kc_3 (x_icmp_ne C (tgt := 134) dX2_parseCondition_116 (by decide) (fun c => ?_) (fun c => ?_))))
    · have h := ite_f h c
      exact w_x2_parseCondition_j134 C E hKb h
    · have h := ite_t h c
      exact w_x2_parseCondition_j119 C E hKb h
set_option maxHeartbeats 4000000 in
theorem w_x2_parseCondition_j58 {z : ZT} {ad : AD} {ek : EK} {lh : Launch} {Dh : va_G} {S' : ST} (C : CX z ad ek cX2_parseCondition RX2 lh Dh 5 5) (E : EV z (cX ad) cX2_parseCondition S') {Kb : ST → Int32 → Int32 → Option ST} (hKb : ∀ (S : ST) (l1 : Int32) (l2 : Int32) , Kb S l1 l2 = some S' → XW z (cX ad) 4 [(0, .ref (ad.1 3)), (1, .int l1), (2, .int l2)] [] S) {S : ST} {l2 : Int32} {l3 : Int32} {l4 : Int32} (h : x2_parseCondition_j58 Kb S l2 l3 l4 = some S') : XW z (cX ad) 58 [(0, .ref (ad.1 3)), (2, .int l2), (3, .int l3), (4, .int l4)] [] S := by
  unfold x2_parseCondition_j58 at h
  obtain ⟨r61, S61, e61, h⟩ := cal_some h
  obtain ⟨S66, e66, h⟩ := calV_some h
  obtain ⟨S83, e83, h⟩ := calV_some h
  refine x_aload_n C dX2_parseCondition_58 rfl 0 rfl (x_iload C dX2_parseCondition_59 3 rfl (x_callVi C (c_x2_accept e61) k_X2_49 (ci := 2) (q0 := 3) rfl rfl (by decide) (Nat.le_of_ble_eq_true rfl) rfl dX2_parseCondition_61 (x_pop C dX2_parseCondition_64 rfl (x_aload_n C dX2_parseCondition_65 rfl 0 rfl (x_callVv C (c_x2_parseExpression e66) k_X2_73 (ci := 2) (q0 := 3) rfl rfl (by decide) (Nat.le_of_ble_eq_true rfl) rfl dX2_parseCondition_66 (x_aload_n C dX2_parseCondition_69 rfl 0 rfl (gX_X2_0 C u_1_151 dX2_parseCondition_70 (x_sipush C dX2_parseCondition_73 ks_30000 (x_iconst C dX2_parseCondition_76 kc_2 (x_iload C dX2_parseCondition_77 3 rfl (x_imul C dX2_parseCondition_79 (x_iadd C dX2_parseCondition_80 (x_iload_n C dX2_parseCondition_81 rfl 2 rfl (x_iadd C dX2_parseCondition_82 (x_callVv C (c_x7_emit e83) k_X2_89 (ci := 7) (q0 := 2) rfl rfl (by decide) (Nat.le_of_ble_eq_true rfl) rfl dX2_parseCondition_83 (x_aload_n C dX2_parseCondition_86 rfl 0 rfl (gX_X2_5 C u_1_156 dX2_parseCondition_87 (x_iconst C dX2_parseCondition_90 kc_3 (x_icmp_ne C (tgt := 103) dX2_parseCondition_91 (by decide) (fun c => ?_) (fun c => ?_))))))))))))))))))))
  · have h := ite_f h c
    exact x_perm [0, 1] rfl (w_x2_parseCondition_j103 C E hKb h)
  · have h := ite_t h c
    obtain ⟨S100, e100, h⟩ := calV_some h
    exact x_aload_n C dX2_parseCondition_94 rfl 0 rfl (gX_X2_0 C u_1_151 dX2_parseCondition_95 (x_ldc C u_3_123 dX2_parseCondition_98 (x_callVv C (c_x7_emit e100) k_X2_89 (ci := 7) (q0 := 2) rfl rfl (by decide) (Nat.le_of_ble_eq_true rfl) rfl dX2_parseCondition_100 (x_perm [0, 1] rfl (w_x2_parseCondition_j103 C E hKb h)))))
set_option maxHeartbeats 4000000 in
theorem w_x2_parseCondition_j53 {z : ZT} {ad : AD} {ek : EK} {lh : Launch} {Dh : va_G} {S' : ST} (C : CX z ad ek cX2_parseCondition RX2 lh Dh 5 5) (E : EV z (cX ad) cX2_parseCondition S') {Kb : ST → Int32 → Int32 → Option ST} (hKb : ∀ (S : ST) (l1 : Int32) (l2 : Int32) , Kb S l1 l2 = some S' → XW z (cX ad) 4 [(0, .ref (ad.1 3)), (1, .int l1), (2, .int l2)] [] S) {S : ST} {l2 : Int32} {l3 : Int32} {l4 : Int32} (h : x2_parseCondition_j53 Kb S l2 l3 l4 = some S') : XW z (cX ad) 53 [(0, .ref (ad.1 3)), (2, .int l2), (3, .int l3), (4, .int l4)] [] S := by
  unfold x2_parseCondition_j53 at h
  obtain ⟨S55, e55, h⟩ := calV_some h
  exact x_aload_n C dX2_parseCondition_53 rfl 0 rfl (x_iconst C dX2_parseCondition_54 kc_1 (x_callVv C (c_x2_refuse e55) k_X2_66 (ci := 2) (q0 := 3) rfl rfl (by decide) (Nat.le_of_ble_eq_true rfl) rfl dX2_parseCondition_55 (w_x2_parseCondition_j58 C E hKb h)))
set_option maxHeartbeats 4000000 in
theorem w_x2_parseCondition_h4 {z : ZT} {ad : AD} {ek : EK} {lh : Launch} {Dh : va_G} {S' : ST} (C : CX z ad ek cX2_parseCondition RX2 lh Dh 5 5) (E : EV z (cX ad) cX2_parseCondition S') : ∀ (n : Nat) (S : ST) (l1 : Int32) (l2 : Int32), x2_parseCondition_h4 n S l1 l2 = some S' → XW z (cX ad) 4 [(0, .ref (ad.1 3)), (1, .int l1), (2, .int l2)] [] S := by
  intro n
  induction n with
  | zero => intro S l1 l2 h; cases h
  | succ n ih =>
    intro S l1 l2 h
    have hKb := ih
    refine x_iload_n C dX2_parseCondition_4 rfl 1 rfl (x_if_eq C (tgt := 142) dX2_parseCondition_5 (by decide) (fun c => ?_) (fun c => ?_))
    · have h := ite_t h c
      exact (by
        exact x_vret E h dX2_parseCondition_142)
    · have h := ite_f h c
      refine x_aload_n C dX2_parseCondition_8 rfl 0 rfl (gX_X2_8 C u_1_159 dX2_parseCondition_9 (x_if_ne C (tgt := 142) dX2_parseCondition_12 (by decide) (fun c => ?_) (fun c => ?_)))
      · have h := ite_f h c
        exact (by
          exact x_vret E h dX2_parseCondition_142)
      · have h := ite_t h c
        refine x_iload_n C dX2_parseCondition_15 rfl 2 rfl (x_sipush C dX2_parseCondition_16 ks_400 (x_icmp_gt C (tgt := 142) dX2_parseCondition_19 (by decide) (fun c => ?_) (fun c => ?_)))
        · have h := ite_t h c
          exact (by
            exact x_vret E h dX2_parseCondition_142)
        · have h := ite_f h c
          obtain ⟨r23, S23, e23, h⟩ := cal_some h
          obtain ⟨S30, e30, h⟩ := calV_some h
          refine x_aload_n C dX2_parseCondition_22 rfl 0 rfl (x_callVi C (c_x2_parseNots e23) k_X2_85 (ci := 2) (q0 := 3) rfl rfl (by decide) (Nat.le_of_ble_eq_true rfl) rfl dX2_parseCondition_23 (x_iconst C dX2_parseCondition_26 kc_2 (x_irem C dX2_parseCondition_27 (by decide) (x_istore_n C dX2_parseCondition_28 rfl (by decide) rfl (x_aload_n C dX2_parseCondition_29 rfl 1 rfl (x_callVv C (c_x2_parseExpression e30) k_X2_73 (ci := 2) (q0 := 3) rfl rfl (by decide) (Nat.le_of_ble_eq_true rfl) rfl dX2_parseCondition_30 (x_aload_n C dX2_parseCondition_33 rfl 1 rfl (gX_X2_5 C u_1_156 dX2_parseCondition_34 (x_istore C dX2_parseCondition_37 (by decide) rfl (x_iload C dX2_parseCondition_39 0 rfl (x_bipush C dX2_parseCondition_41 kb_31 (x_icmp_lt C (tgt := 53) dX2_parseCondition_43 (by decide) (fun c => ?_) (fun c => ?_)))))))))))))
          · have h := ite_t h c
            exact x_perm [2, 4, 1, 0] rfl (w_x2_parseCondition_j53 C E hKb h)
          · have h := ite_f h c
            refine x_iload C dX2_parseCondition_46 0 rfl (x_bipush C dX2_parseCondition_48 kb_34 (x_icmp_le C (tgt := 58) dX2_parseCondition_50 (by decide) (fun c => ?_) (fun c => ?_)))
            · have h := ite_t h c
              exact x_perm [2, 4, 1, 0] rfl (w_x2_parseCondition_j58 C E hKb h)
            · have h := ite_f h c
              exact x_perm [2, 4, 1, 0] rfl (w_x2_parseCondition_j53 C E hKb h)
set_option maxHeartbeats 4000000 in
theorem c_x2_parseCondition {ad : AD} {ek : EK} {lh : Launch} {Dh : va_G} {S' : ST}  {S : ST} (h : x2_parseCondition S = some S') : MXv lh Dh ad ek (cX ad) yX2_parseCondition cX2_parseCondition 5 none 5 [.ref (ad.1 3)] S S' := by
  refine mxv_of (by decide) (Nat.le_of_ble_eq_true rfl) (fun z C E => ?_)
  unfold x2_parseCondition at h
  exact x_iconst C dX2_parseCondition_0 kc_1 (x_istore_n C dX2_parseCondition_1 rfl (by decide) rfl (x_iconst C dX2_parseCondition_2 kc_0 (x_istore_n C dX2_parseCondition_3 rfl (by decide) rfl (x_perm [2, 1, 0] rfl (w_x2_parseCondition_h4 C E FU _ _ _ h)))))
set_option maxHeartbeats 4000000 in
theorem c_x3_fate {ad : AD} {ek : EK} {lh : Launch} {Dh : va_G} {r : Int32} {S' : ST}  {S : ST} {l1 : Int32} {l2 : Int32} (h : x3_fate S l1 l2 = some (r, S')) : MXi lh Dh ad ek (cX ad) yX3_fate cX3_fate 5 (some .int) 5 [.ref (ad.1 5), .int l1, .int l2] S r S' := by
  refine mxi_of (by decide) (Nat.le_of_ble_eq_true rfl) (fun z C E => ?_)
  unfold x3_fate at h
  obtain ⟨g8, h⟩ := G_some h
  obtain ⟨g18, h⟩ := G_some h
  obtain ⟨g31, h⟩ := G_some h
  refine x_aload_n C dX3_fate_0 rfl 0 rfl (gX_X3_0 C u_2_8 dX3_fate_1 (gX_X0_8 C u_1_211 dX3_fate_4 (x_iload_n C dX3_fate_7 rfl 1 rfl (aX_34 C g8 dX3_fate_8 (x_istore_n C dX3_fate_9 rfl (by decide) rfl (x_aload_n C dX3_fate_10 rfl 1 rfl (gX_X3_0 C u_2_8 dX3_fate_11 (gX_X0_1 C u_1_193 dX3_fate_14 (x_iload_n C dX3_fate_17 rfl 2 rfl (aX_27 C g18 dX3_fate_18 (x_istore C dX3_fate_19 (by decide) rfl (x_iload C dX3_fate_21 0 rfl (x_aload_n C dX3_fate_23 rfl 2 rfl (gX_X3_0 C u_2_8 dX3_fate_24 (gX_X0_1 C u_1_193 dX3_fate_27 (x_iload_n C dX3_fate_30 rfl 1 rfl (aX_27 C g31 dX3_fate_31 (x_icmp_ge C (tgt := 37) dX3_fate_32 (by decide) (fun c => ?_) (fun c => ?_)))))))))))))))))))
  · have h := ite_t h c
    obtain ⟨r45, S45, e45, h⟩ := cal_some h
    refine x_aload_n C dX3_fate_37 rfl 2 rfl (gX_X3_0 C u_2_8 dX3_fate_38 (x_iload_n C dX3_fate_41 rfl 1 rfl (x_iload C dX3_fate_42 0 rfl (x_iload_n C dX3_fate_44 rfl 4 rfl (x_callVi C (c_x0_isStruckBy e45) k_X3_27 (ci := 0) (q0 := 4) rfl rfl (by decide) (Nat.le_of_ble_eq_true rfl) rfl dX3_fate_45 (x_if_eq C (tgt := 53) dX3_fate_48 (by decide) (fun c => ?_) (fun c => ?_)))))))
    · have h := ite_t h c
      obtain ⟨g64, h⟩ := G_some h
      obtain ⟨g74, h⟩ := G_some h
      obtain ⟨S75, e75, h⟩ := calV_some h
      obtain ⟨r89, S89, e89, h⟩ := cal_some h
      refine x_aload_n C dX3_fate_53 rfl 2 rfl (x_iload C dX3_fate_54 0 rfl (x_aload_n C dX3_fate_56 rfl 2 rfl (gX_X3_0 C u_2_8 dX3_fate_57 (gX_X0_1 C u_1_193 dX3_fate_60 (x_iload_n C dX3_fate_63 rfl 1 rfl (aX_27 C g64 dX3_fate_64 (x_isub C dX3_fate_65 (x_aload_n C dX3_fate_66 rfl 2 rfl (gX_X3_0 C u_2_8 dX3_fate_67 (gX_X0_4 C u_1_205 dX3_fate_70 (x_iload_n C dX3_fate_73 rfl 3 rfl (aX_30 C g74 dX3_fate_74 (x_callVv C (c_x3_setVariables e75) k_X3_40 (ci := 3) (q0 := 5) rfl rfl (by decide) (Nat.le_of_ble_eq_true rfl) rfl dX3_fate_75 (x_aload_n C dX3_fate_78 rfl 2 rfl (gX_X3_1 C u_2_9 dX3_fate_79 (x_iconst C dX3_fate_82 kc_1 (x_iload C dX3_fate_83 0 rfl (x_aload_n C dX3_fate_85 rfl 2 rfl (gX_X3_2 C u_2_10 dX3_fate_86 (x_callVi C (c_x7_firstThatHolds e89) k_X3_44 (ci := 7) (q0 := 2) rfl rfl (by decide) (Nat.le_of_ble_eq_true rfl) rfl dX3_fate_89 (x_bipush C dX3_fate_92 kb_m2 (x_icmp_ne C (tgt := 99) dX3_fate_94 (by decide) (fun c => ?_) (fun c => ?_)))))))))))))))))))))))
      · have h := ite_f h c
        obtain ⟨r111, S111, e111, h⟩ := cal_some h
        refine x_aload_n C dX3_fate_99 rfl 2 rfl (x_aload_n C dX3_fate_100 rfl 2 rfl (gX_X3_1 C u_2_9 dX3_fate_101 (x_iconst C dX3_fate_104 kc_2 (x_iload C dX3_fate_105 0 rfl (x_aload_n C dX3_fate_107 rfl 2 rfl (gX_X3_2 C u_2_10 dX3_fate_108 (x_callVi C (c_x7_firstThatHolds e111) k_X3_44 (ci := 7) (q0 := 2) rfl rfl (by decide) (Nat.le_of_ble_eq_true rfl) rfl dX3_fate_111 (pX_X3_8 C u_2_24 dX3_fate_114 (x_aload_n C dX3_fate_117 rfl 2 rfl (gX_X3_8 C u_2_24 dX3_fate_118 (x_bipush C dX3_fate_121 kb_m2 (x_icmp_ne C (tgt := 130) dX3_fate_123 (by decide) (fun c => ?_) (fun c => ?_)))))))))))))
        · have h := ite_f h c
          exact x_iconst C dX3_fate_130 kc_4 (x_iret E h retI dX3_fate_131)
        · have h := ite_t h c
          exact x_iconst C dX3_fate_126 kc_0 (x_goto C (tgt := 131) dX3_fate_127 (by decide) (x_iret E h retI dX3_fate_131))
      · have h := ite_t h c
        exact x_iconst C dX3_fate_97 kc_3 (x_iret E h retI dX3_fate_98)
    · have h := ite_f h c
      exact x_iconst C dX3_fate_51 kc_2 (x_iret E h retI dX3_fate_52)
  · have h := ite_f h c
    exact x_iconst C dX3_fate_35 kc_1 (x_iret E h retI dX3_fate_36)
set_option maxHeartbeats 4000000 in
theorem c_x3_keptFromCourt {ad : AD} {ek : EK} {lh : Launch} {Dh : va_G} {r : Int32} {S' : ST}  {S : ST} {l1 : Int32} (h : x3_keptFromCourt S l1 = some (r, S')) : MXi lh Dh ad ek (cX ad) yX3_keptFromCourt cX3_keptFromCourt 2 (some .int) 5 [.ref (ad.1 5), .int l1] S r S' := by
  refine mxi_of (by decide) (Nat.le_of_ble_eq_true rfl) (fun z C E => ?_)
  unfold x3_keptFromCourt at h
  obtain ⟨r10, S10, e10, h⟩ := cal_some h
  exact x_aload_n C dX3_keptFromCourt_0 rfl 0 rfl (gX_X3_1 C u_2_9 dX3_keptFromCourt_1 (x_iconst C dX3_keptFromCourt_4 kc_4 (x_iload_n C dX3_keptFromCourt_5 rfl 1 rfl (x_aload_n C dX3_keptFromCourt_6 rfl 0 rfl (gX_X3_2 C u_2_10 dX3_keptFromCourt_7 (x_callVi C (c_x7_firstThatHolds e10) k_X3_44 (ci := 7) (q0 := 2) rfl rfl (by decide) (Nat.le_of_ble_eq_true rfl) rfl dX3_keptFromCourt_10 (x_iret E h retI dX3_keptFromCourt_13)))))))
set_option maxHeartbeats 4000000 in
theorem w_x3_putRight_j161 {z : ZT} {ad : AD} {ek : EK} {lh : Launch} {Dh : va_G} {S' : ST} (C : CX z ad ek cX3_putRight RX3 lh Dh 5 5) (E : EV z (cX ad) cX3_putRight S') {S : ST} {l1 : Int32} {l2 : Int32} {l3 : Int32} {s0 : Int32} {s1 : Int32} (h : x3_putRight_j161 S l1 l2 l3 s0 s1 = some S') : XW z (cX ad) 161 [(0, .ref (ad.1 5)), (1, .int l1), (2, .int l2), (3, .int l3)] [.int s0, .int s1, .ref (ad.1 36)] S := by
  unfold x3_putRight_j161 at h
  obtain ⟨g161, h⟩ := G_some h
  obtain ⟨r174, S174, e174, h⟩ := cal_some h
  obtain ⟨g177, h⟩ := G_some h
  obtain ⟨r190, S190, e190, h⟩ := cal_some h
  obtain ⟨g193, h⟩ := G_some h
  obtain ⟨S197, e197, h⟩ := calV_some h
  obtain ⟨r211, S211, e211, h⟩ := cal_some h
  refine sX_36 C g161 dX3_putRight_161 (x_aload_n C dX3_putRight_162 rfl 0 rfl (gX_X3_2 C u_2_10 dX3_putRight_163 (x_bipush C dX3_putRight_166 kb_9 (x_aload_n C dX3_putRight_168 rfl 0 rfl (gX_X3_0 C u_2_8 dX3_putRight_169 (x_iload_n C dX3_putRight_172 rfl 1 rfl (x_iload_n C dX3_putRight_173 rfl 2 rfl (x_callVi C (c_x0_heardWord e174) k_X3_96 (ci := 0) (q0 := 4) rfl rfl (by decide) (Nat.le_of_ble_eq_true rfl) rfl dX3_putRight_174 (sX_36 C g177 dX3_putRight_177 (x_aload_n C dX3_putRight_178 rfl 0 rfl (gX_X3_2 C u_2_10 dX3_putRight_179 (x_bipush C dX3_putRight_182 kb_11 (x_aload_n C dX3_putRight_184 rfl 0 rfl (gX_X3_0 C u_2_8 dX3_putRight_185 (x_iload_n C dX3_putRight_188 rfl 1 rfl (x_iload_n C dX3_putRight_189 rfl 2 rfl (x_callVi C (c_x0_linesBeside e190) k_X3_99 (ci := 0) (q0 := 4) rfl rfl (by decide) (Nat.le_of_ble_eq_true rfl) rfl dX3_putRight_190 (sX_36 C g193 dX3_putRight_193 (x_aload_n C dX3_putRight_194 rfl 0 rfl (x_iconst C dX3_putRight_195 kc_0 (x_iconst C dX3_putRight_196 kc_0 (x_callVv C (c_x3_setVariables e197) k_X3_40 (ci := 3) (q0 := 5) rfl rfl (by decide) (Nat.le_of_ble_eq_true rfl) rfl dX3_putRight_197 (x_aload_n C dX3_putRight_200 rfl 0 rfl (x_aload_n C dX3_putRight_201 rfl 0 rfl (gX_X3_1 C u_2_9 dX3_putRight_202 (x_iconst C dX3_putRight_205 kc_0 (x_iload_n C dX3_putRight_206 rfl 3 rfl (x_aload_n C dX3_putRight_207 rfl 0 rfl (gX_X3_2 C u_2_10 dX3_putRight_208 (x_callVi C (c_x7_firstThatHolds e211) k_X3_44 (ci := 7) (q0 := 2) rfl rfl (by decide) (Nat.le_of_ble_eq_true rfl) rfl dX3_putRight_211 (pX_X3_4 C u_2_14 dX3_putRight_214 (x_aload_n C dX3_putRight_217 rfl 0 rfl (gX_X3_4 C u_2_14 dX3_putRight_218 (x_bipush C dX3_putRight_221 kb_m2 (x_icmp_eq C (tgt := 260) dX3_putRight_223 (by decide) (fun c => ?_) (fun c => ?_))))))))))))))))))))))))))))))))))))
  · have h := ite_t h c
    exact x_vret E h dX3_putRight_260
  · have h := ite_f h c
    obtain ⟨r239, S239, e239, h⟩ := cal_some h
    exact x_aload_n C dX3_putRight_226 rfl 0 rfl (gX_X3_1 C u_2_9 dX3_putRight_227 (x_iload_n C dX3_putRight_230 rfl 3 rfl (x_aload_n C dX3_putRight_231 rfl 0 rfl (gX_X3_4 C u_2_14 dX3_putRight_232 (x_aload_n C dX3_putRight_235 rfl 0 rfl (gX_X3_2 C u_2_10 dX3_putRight_236 (x_callVi C (c_x7_valueOf e239) k_X3_105 (ci := 7) (q0 := 2) rfl rfl (by decide) (Nat.le_of_ble_eq_true rfl) rfl dX3_putRight_239 (x_istore C dX3_putRight_242 (by decide) rfl (x_aload_n C dX3_putRight_244 rfl 1 rfl (x_iconst C dX3_putRight_245 kc_0 (x_sipush C dX3_putRight_246 ks_999 (x_iload C dX3_putRight_249 0 rfl (x_mmin C u_4_82 (by decide) (Nat.le_of_ble_eq_true rfl) dX3_putRight_251 (x_mmax C u_4_85 (by decide) (Nat.le_of_ble_eq_true rfl) dX3_putRight_254 (pX_X3_3 C u_2_12 dX3_putRight_257 (x_vret E h dX3_putRight_260))))))))))))))))
set_option maxHeartbeats 4000000 in
theorem w_x3_putRight_j129 {z : ZT} {ad : AD} {ek : EK} {lh : Launch} {Dh : va_G} {S' : ST} (C : CX z ad ek cX3_putRight RX3 lh Dh 5 5) (E : EV z (cX ad) cX3_putRight S') {S : ST} {l1 : Int32} {l2 : Int32} {l3 : Int32} {s0 : Int32} {s1 : Int32} (h : x3_putRight_j129 S l1 l2 l3 s0 s1 = some S') : XW z (cX ad) 129 [(0, .ref (ad.1 5)), (1, .int l1), (2, .int l2), (3, .int l3)] [.int s0, .int s1, .ref (ad.1 36)] S := by
  unfold x3_putRight_j129 at h
  obtain ⟨g129, h⟩ := G_some h
  refine sX_36 C g129 dX3_putRight_129 (x_aload_n C dX3_putRight_130 rfl 0 rfl (gX_X3_2 C u_2_10 dX3_putRight_131 (x_bipush C dX3_putRight_134 kb_6 (x_aload_n C dX3_putRight_136 rfl 0 rfl (gX_X3_9 C u_2_26 dX3_putRight_137 (x_bipush C dX3_putRight_140 kb_m2 (x_icmp_ne C (tgt := 149) dX3_putRight_142 (by decide) (fun c => ?_) (fun c => ?_))))))))
  · have h := ite_f h c
    obtain ⟨r158, S158, e158, h⟩ := cal_some h
    exact x_aload_n C dX3_putRight_149 rfl 0 rfl (gX_X3_0 C u_2_8 dX3_putRight_150 (x_aload_n C dX3_putRight_153 rfl 0 rfl (gX_X3_9 C u_2_26 dX3_putRight_154 (x_iload_n C dX3_putRight_157 rfl 2 rfl (x_callVi C (c_x0_officeOf e158) k_X3_93 (ci := 0) (q0 := 4) rfl rfl (by decide) (Nat.le_of_ble_eq_true rfl) rfl dX3_putRight_158 (w_x3_putRight_j161 C E h))))))
  · have h := ite_t h c
    exact x_iconst C dX3_putRight_145 kc_0 (x_goto C (tgt := 161) dX3_putRight_146 (by decide) (w_x3_putRight_j161 C E h))
set_option maxHeartbeats 4000000 in
theorem c_x3_putRight {ad : AD} {ek : EK} {lh : Launch} {Dh : va_G} {S' : ST}  {S : ST} {l1 : Int32} {l2 : Int32} (h : x3_putRight S l1 l2 = some S') : MXv lh Dh ad ek (cX ad) yX3_putRight cX3_putRight 5 none 5 [.ref (ad.1 5), .int l1, .int l2] S S' := by
  refine mxv_of (by decide) (Nat.le_of_ble_eq_true rfl) (fun z C E => ?_)
  unfold x3_putRight at h
  obtain ⟨g8, h⟩ := G_some h
  obtain ⟨g23, h⟩ := G_some h
  obtain ⟨r26, S26, e26, h⟩ := cal_some h
  obtain ⟨g41, h⟩ := G_some h
  obtain ⟨g59, h⟩ := G_some h
  obtain ⟨r71, S71, e71, h⟩ := cal_some h
  obtain ⟨g74, h⟩ := G_some h
  obtain ⟨g88, h⟩ := G_some h
  obtain ⟨g89, h⟩ := G_some h
  obtain ⟨g103, h⟩ := G_some h
  obtain ⟨g104, h⟩ := G_some h
  refine x_aload_n C dX3_putRight_0 rfl 0 rfl (gX_X3_0 C u_2_8 dX3_putRight_1 (gX_X0_1 C u_1_193 dX3_putRight_4 (x_iload_n C dX3_putRight_7 rfl 1 rfl (aX_27 C g8 dX3_putRight_8 (x_istore_n C dX3_putRight_9 rfl (by decide) rfl (x_aload_n C dX3_putRight_10 rfl 1 rfl (x_aload_n C dX3_putRight_11 rfl 1 rfl (gX_X3_0 C u_2_8 dX3_putRight_12 (x_aload_n C dX3_putRight_15 rfl 1 rfl (gX_X3_0 C u_2_8 dX3_putRight_16 (gX_X0_3 C u_1_201 dX3_putRight_19 (x_iload_n C dX3_putRight_22 rfl 2 rfl (aX_29 C g23 dX3_putRight_23 (x_iload_n C dX3_putRight_24 rfl 0 rfl (x_iload_n C dX3_putRight_25 rfl 3 rfl (x_callVi C (c_x0_sitter e26) k_X3_78 (ci := 0) (q0 := 4) rfl rfl (by decide) (Nat.le_of_ble_eq_true rfl) rfl dX3_putRight_26 (pX_X3_9 C u_2_26 dX3_putRight_29 (x_aload_n C dX3_putRight_32 rfl 1 rfl (x_aload_n C dX3_putRight_33 rfl 1 rfl (gX_X3_0 C u_2_8 dX3_putRight_34 (gX_X0_4 C u_1_205 dX3_putRight_37 (x_iload_n C dX3_putRight_40 rfl 2 rfl (aX_30 C g41 dX3_putRight_41 (pX_X3_3 C u_2_12 dX3_putRight_42 (x_aload_n C dX3_putRight_45 rfl 1 rfl (x_iconst C dX3_putRight_46 kc_0 (pX_X3_5 C u_2_16 dX3_putRight_47 (x_aload_n C dX3_putRight_50 rfl 1 rfl (gX_X3_2 C u_2_10 dX3_putRight_51 (x_iconst C dX3_putRight_54 kc_1 (x_aload_n C dX3_putRight_55 rfl 1 rfl (gX_X3_3 C u_2_12 dX3_putRight_56 (sX_36 C g59 dX3_putRight_59 (x_aload_n C dX3_putRight_60 rfl 1 rfl (gX_X3_2 C u_2_10 dX3_putRight_61 (x_iconst C dX3_putRight_64 kc_2 (x_aload_n C dX3_putRight_65 rfl 1 rfl (gX_X3_0 C u_2_8 dX3_putRight_66 (x_iload_n C dX3_putRight_69 rfl 2 rfl (x_iload_n C dX3_putRight_70 rfl 3 rfl (x_callVi C (c_x0_paperWord e71) k_X3_84 (ci := 0) (q0 := 4) rfl rfl (by decide) (Nat.le_of_ble_eq_true rfl) rfl dX3_putRight_71 (sX_36 C g74 dX3_putRight_74 (x_aload_n C dX3_putRight_75 rfl 1 rfl (gX_X3_2 C u_2_10 dX3_putRight_76 (x_iconst C dX3_putRight_79 kc_3 (x_aload_n C dX3_putRight_80 rfl 1 rfl (gX_X3_0 C u_2_8 dX3_putRight_81 (gX_X0_9 C u_1_215 dX3_putRight_84 (x_iload_n C dX3_putRight_87 rfl 2 rfl (aX_35 C g88 dX3_putRight_88 (sX_36 C g89 dX3_putRight_89 (x_aload_n C dX3_putRight_90 rfl 1 rfl (gX_X3_2 C u_2_10 dX3_putRight_91 (x_iconst C dX3_putRight_94 kc_4 (x_aload_n C dX3_putRight_95 rfl 1 rfl (gX_X3_0 C u_2_8 dX3_putRight_96 (gX_X0_2 C u_1_198 dX3_putRight_99 (x_iload_n C dX3_putRight_102 rfl 2 rfl (aX_28 C g103 dX3_putRight_103 (sX_36 C g104 dX3_putRight_104 (x_aload_n C dX3_putRight_105 rfl 1 rfl (gX_X3_2 C u_2_10 dX3_putRight_106 (x_iconst C dX3_putRight_109 kc_5 (x_aload_n C dX3_putRight_110 rfl 1 rfl (gX_X3_9 C u_2_26 dX3_putRight_111 (x_bipush C dX3_putRight_114 kb_m2 (x_icmp_ne C (tgt := 123) dX3_putRight_116 (by decide) (fun c => ?_) (fun c => ?_))))))))))))))))))))))))))))))))))))))))))))))))))))))))))))))))))))
  · have h := ite_f h c
    exact x_aload_n C dX3_putRight_123 rfl 1 rfl (gX_X3_9 C u_2_26 dX3_putRight_124 (x_iconst C dX3_putRight_127 kc_1 (x_iadd C dX3_putRight_128 (x_perm [1, 2, 3, 0] rfl (w_x3_putRight_j129 C E h)))))
  · have h := ite_t h c
    exact x_iconst C dX3_putRight_119 kc_0 (x_goto C (tgt := 129) dX3_putRight_120 (by decide) (x_perm [1, 2, 3, 0] rfl (w_x3_putRight_j129 C E h)))
set_option maxHeartbeats 4000000 in
theorem c_x8_joinWord {ad : AD} {ek : EK} {lh : Launch} {Dh : va_G} {r : Int32} {S' : ST}  {S : ST} {l1 : Int32} (h : x8_joinWord S l1 = some (r, S')) : MXi lh Dh ad ek (cX ad) yX8_joinWord cX8_joinWord 3 (some .int) 5 [.ref (ad.1 8), .int l1] S r S' := by
  refine mxi_of (by decide) (Nat.le_of_ble_eq_true rfl) (fun z C E => ?_)
  unfold x8_joinWord at h
  obtain ⟨g5, h⟩ := G_some h
  obtain ⟨r7, S7, e7, h⟩ := cal_some h
  refine x_aload_n C dX8_joinWord_0 rfl 0 rfl (gX_X8_1 C u_2_93 dX8_joinWord_1 (x_iconst C dX8_joinWord_4 kc_0 (aX_40 C g5 dX8_joinWord_5 (x_aload_n C dX8_joinWord_6 rfl 0 rfl (x_callVi C (c_x8_overlap e7) k_X8_37 (ci := 8) (q0 := 8) rfl rfl (by decide) (Nat.le_of_ble_eq_true rfl) rfl dX8_joinWord_7 (x_isub C dX8_joinWord_10 (x_istore_n C dX8_joinWord_11 rfl (by decide) rfl (x_iload_n C dX8_joinWord_12 rfl 2 rfl (x_if_lt C (tgt := 28) dX8_joinWord_13 (by decide) (fun c => ?_) (fun c => ?_))))))))))
  · have h := ite_t h c
    exact x_iconst C dX8_joinWord_28 kc_m1 (x_iret E h retI dX8_joinWord_29)
  · have h := ite_f h c
    obtain ⟨g23, h⟩ := G_some h
    refine x_iload_n C dX8_joinWord_16 rfl 2 rfl (x_iload_n C dX8_joinWord_17 rfl 0 rfl (x_aload_n C dX8_joinWord_18 rfl 1 rfl (gX_X8_1 C u_2_93 dX8_joinWord_19 (x_iconst C dX8_joinWord_22 kc_1 (aX_40 C g23 dX8_joinWord_23 (x_iadd C dX8_joinWord_24 (x_icmp_lt C (tgt := 30) dX8_joinWord_25 (by decide) (fun c => ?_) (fun c => ?_))))))))
    · have h := ite_t h c
      refine x_iload_n C dX8_joinWord_30 rfl 2 rfl (x_iload_n C dX8_joinWord_31 rfl 0 rfl (x_icmp_ge C (tgt := 42) dX8_joinWord_32 (by decide) (fun c => ?_) (fun c => ?_)))
      · have h := ite_t h c
        obtain ⟨g48, h⟩ := G_some h
        refine x_iload_n C dX8_joinWord_42 rfl 2 rfl (x_aload_n C dX8_joinWord_43 rfl 1 rfl (gX_X8_1 C u_2_93 dX8_joinWord_44 (x_iconst C dX8_joinWord_47 kc_0 (aX_40 C g48 dX8_joinWord_48 (x_icmp_lt C (tgt := 61) dX8_joinWord_49 (by decide) (fun c => ?_) (fun c => ?_))))))
        · have h := ite_t h c
          obtain ⟨r65, S65, e65, h⟩ := cal_some h
          obtain ⟨r73, S73, e73, h⟩ := cal_some h
          obtain ⟨r76, S76, e76, h⟩ := cal_some h
          exact x_aload_n C dX8_joinWord_61 rfl 1 rfl (x_aload_n C dX8_joinWord_62 rfl 1 rfl (x_iconst C dX8_joinWord_63 kc_0 (x_iload_n C dX8_joinWord_64 rfl 2 rfl (x_callVi C (c_x8_wordAt e65) k_X8_34 (ci := 8) (q0 := 8) rfl rfl (by decide) (Nat.le_of_ble_eq_true rfl) rfl dX8_joinWord_65 (x_aload_n C dX8_joinWord_68 rfl 1 rfl (x_iconst C dX8_joinWord_69 kc_1 (x_iload_n C dX8_joinWord_70 rfl 2 rfl (x_iload_n C dX8_joinWord_71 rfl 0 rfl (x_isub C dX8_joinWord_72 (x_callVi C (c_x8_wordAt e73) k_X8_34 (ci := 8) (q0 := 8) rfl rfl (by decide) (Nat.le_of_ble_eq_true rfl) rfl dX8_joinWord_73 (x_callVi C (c_x8_moreHeard e76) k_X8_41 (ci := 8) (q0 := 8) rfl rfl (by decide) (Nat.le_of_ble_eq_true rfl) rfl dX8_joinWord_76 (x_iret E h retI dX8_joinWord_79))))))))))))
        · have h := ite_f h c
          obtain ⟨r57, S57, e57, h⟩ := cal_some h
          exact x_aload_n C dX8_joinWord_52 rfl 1 rfl (x_iconst C dX8_joinWord_53 kc_1 (x_iload_n C dX8_joinWord_54 rfl 2 rfl (x_iload_n C dX8_joinWord_55 rfl 0 rfl (x_isub C dX8_joinWord_56 (x_callVi C (c_x8_wordAt e57) k_X8_34 (ci := 8) (q0 := 8) rfl rfl (by decide) (Nat.le_of_ble_eq_true rfl) rfl dX8_joinWord_57 (x_iret E h retI dX8_joinWord_60))))))
      · have h := ite_f h c
        obtain ⟨r38, S38, e38, h⟩ := cal_some h
        exact x_aload_n C dX8_joinWord_35 rfl 1 rfl (x_iconst C dX8_joinWord_36 kc_0 (x_iload_n C dX8_joinWord_37 rfl 2 rfl (x_callVi C (c_x8_wordAt e38) k_X8_34 (ci := 8) (q0 := 8) rfl rfl (by decide) (Nat.le_of_ble_eq_true rfl) rfl dX8_joinWord_38 (x_iret E h retI dX8_joinWord_41))))
    · have h := ite_f h c
      exact x_iconst C dX8_joinWord_28 kc_m1 (x_iret E h retI dX8_joinWord_29)
set_option maxHeartbeats 4000000 in
theorem c_x11_joined {ad : AD} {ek : EK} {lh : Launch} {Dh : va_G} {r : Int32} {S' : ST}  {S : ST} {l1 : Int32} (h : x11_joined S l1 = some (r, S')) : MXi lh Dh ad ek (cX ad) yX11_joined cX11_joined 2 (some .int) 6 [.ref (ad.1 0), .int l1] S r S' := by
  refine mxi_of (by decide) (Nat.le_of_ble_eq_true rfl) (fun z C E => ?_)
  unfold x11_joined at h
  obtain ⟨r5, S5, e5, h⟩ := cal_some h
  exact x_aload_n C dX11_joined_0 rfl 0 rfl (gX_X11_7 C u_2_146 dX11_joined_1 (x_iload_n C dX11_joined_4 rfl 1 rfl (x_callVi C (c_x8_joinWord e5) k_X11_220 (ci := 8) (q0 := 8) rfl rfl (by decide) (Nat.le_of_ble_eq_true rfl) rfl dX11_joined_5 (x_iret E h retI dX11_joined_8))))
set_option maxHeartbeats 4000000 in
theorem w_x2_parseRule_j112 {z : ZT} {ad : AD} {ek : EK} {lh : Launch} {Dh : va_G} {S' : ST} (C : CX z ad ek cX2_parseRule RX2 lh Dh 6 3) (E : EV z (cX ad) cX2_parseRule S') {S : ST} (h : x2_parseRule_j112 S = some S') : XW z (cX ad) 112 [(0, .ref (ad.1 3))] [] S := by
  unfold x2_parseRule_j112 at h
  obtain ⟨r115, S115, e115, h⟩ := cal_some h
  refine x_aload_n C dX2_parseRule_112 rfl 0 rfl (x_bipush C dX2_parseRule_113 kb_26 (x_callVi C (c_x2_accept e115) k_X2_49 (ci := 2) (q0 := 3) rfl rfl (by decide) (Nat.le_of_ble_eq_true rfl) rfl dX2_parseRule_115 (x_if_eq C (tgt := 128) dX2_parseRule_118 (by decide) (fun c => ?_) (fun c => ?_))))
  · have h := ite_t h c
    exact x_vret E h dX2_parseRule_128
  · have h := ite_f h c
    obtain ⟨S125, e125, h⟩ := calV_some h
    exact x_aload_n C dX2_parseRule_121 rfl 0 rfl (gX_X2_0 C u_1_151 dX2_parseRule_122 (x_callVv C (c_x7_closeRule e125) k_X2_82 (ci := 7) (q0 := 2) rfl rfl (by decide) (Nat.le_of_ble_eq_true rfl) rfl dX2_parseRule_125 (x_vret E h dX2_parseRule_128)))
set_option maxHeartbeats 4000000 in
theorem w_x2_parseRule_j102 {z : ZT} {ad : AD} {ek : EK} {lh : Launch} {Dh : va_G} {S' : ST} (C : CX z ad ek cX2_parseRule RX2 lh Dh 6 3) (E : EV z (cX ad) cX2_parseRule S') {S : ST} (h : x2_parseRule_j102 S = some S') : XW z (cX ad) 102 [(0, .ref (ad.1 3))] [] S := by
  unfold x2_parseRule_j102 at h
  obtain ⟨r104, S104, e104, h⟩ := cal_some h
  obtain ⟨S109, e109, h⟩ := calV_some h
  exact x_aload_n C dX2_parseRule_102 rfl 0 rfl (x_iconst C dX2_parseRule_103 kc_2 (x_callVi C (c_x2_accept e104) k_X2_49 (ci := 2) (q0 := 3) rfl rfl (by decide) (Nat.le_of_ble_eq_true rfl) rfl dX2_parseRule_104 (x_pop C dX2_parseRule_107 rfl (x_aload_n C dX2_parseRule_108 rfl 0 rfl (x_callVv C (c_x2_parseCondition e109) k_X2_79 (ci := 2) (q0 := 3) rfl rfl (by decide) (Nat.le_of_ble_eq_true rfl) rfl dX2_parseRule_109 (w_x2_parseRule_j112 C E h))))))
set_option maxHeartbeats 4000000 in
theorem w_x2_parseRule_j85 {z : ZT} {ad : AD} {ek : EK} {lh : Launch} {Dh : va_G} {S' : ST} (C : CX z ad ek cX2_parseRule RX2 lh Dh 6 3) (E : EV z (cX ad) cX2_parseRule S') {S : ST} {l2 : Int32} (h : x2_parseRule_j85 S l2 = some S') : XW z (cX ad) 85 [(0, .ref (ad.1 3)), (2, .int l2)] [] S := by
  unfold x2_parseRule_j85 at h
  refine x_iload_n C dX2_parseRule_85 rfl 1 rfl (x_iconst C dX2_parseRule_86 kc_5 (x_icmp_eq C (tgt := 112) dX2_parseRule_87 (by decide) (fun c => ?_) (fun c => ?_)))
  · have h := ite_t h c
    exact x_perm [0] rfl (w_x2_parseRule_j112 C E h)
  · have h := ite_f h c
    refine x_iload_n C dX2_parseRule_90 rfl 1 rfl (x_if_ne C (tgt := 102) dX2_parseRule_91 (by decide) (fun c => ?_) (fun c => ?_))
    · have h := ite_f h c
      exact x_perm [0] rfl (w_x2_parseRule_j102 C E h)
    · have h := ite_t h c
      refine x_aload_n C dX2_parseRule_94 rfl 0 rfl (gX_X2_5 C u_1_156 dX2_parseRule_95 (x_iconst C dX2_parseRule_98 kc_2 (x_icmp_ne C (tgt := 112) dX2_parseRule_99 (by decide) (fun c => ?_) (fun c => ?_))))
      · have h := ite_f h c
        exact x_perm [0] rfl (w_x2_parseRule_j112 C E h)
      · have h := ite_t h c
        exact x_perm [0] rfl (w_x2_parseRule_j102 C E h)
set_option maxHeartbeats 4000000 in
theorem c_x2_parseRule {ad : AD} {ek : EK} {lh : Launch} {Dh : va_G} {S' : ST}  {S : ST} {l1 : Int32} (h : x2_parseRule S l1 = some S') : MXv lh Dh ad ek (cX ad) yX2_parseRule cX2_parseRule 3 none 6 [.ref (ad.1 3), .int l1] S S' := by
  refine mxv_of (by decide) (Nat.le_of_ble_eq_true rfl) (fun z C E => ?_)
  unfold x2_parseRule at h
  refine x_aload_n C dX2_parseRule_0 rfl 0 rfl (gX_X2_5 C u_1_156 dX2_parseRule_1 (x_bipush C dX2_parseRule_4 kb_6 (x_isub C dX2_parseRule_6 (x_istore_n C dX2_parseRule_7 rfl (by decide) rfl (x_iload_n C dX2_parseRule_8 rfl 0 rfl (x_if_lt C (tgt := 17) dX2_parseRule_9 (by decide) (fun c => ?_) (fun c => ?_)))))))
  · have h := ite_t h c
    obtain ⟨S19, e19, h⟩ := calV_some h
    exact x_aload_n C dX2_parseRule_17 rfl 1 rfl (x_iconst C dX2_parseRule_18 kc_1 (x_callVv C (c_x2_refuse e19) k_X2_66 (ci := 2) (q0 := 3) rfl rfl (by decide) (Nat.le_of_ble_eq_true rfl) rfl dX2_parseRule_19 (x_vret E h dX2_parseRule_22)))
  · have h := ite_f h c
    refine x_iload_n C dX2_parseRule_12 rfl 0 rfl (x_iconst C dX2_parseRule_13 kc_5 (x_icmp_le C (tgt := 23) dX2_parseRule_14 (by decide) (fun c => ?_) (fun c => ?_)))
    · have h := ite_t h c
      refine x_iload_n C dX2_parseRule_23 rfl 2 rfl (x_bipush C dX2_parseRule_24 kb_24 (x_icmp_lt C (tgt := 35) dX2_parseRule_26 (by decide) (fun c => ?_) (fun c => ?_)))
      · have h := ite_t h c
        obtain ⟨r40, S40, e40, h⟩ := cal_some h
        obtain ⟨S54, e54, h⟩ := calV_some h
        obtain ⟨r60, S60, e60, h⟩ := cal_some h
        refine x_aload_n C dX2_parseRule_35 rfl 1 rfl (x_aload_n C dX2_parseRule_36 rfl 1 rfl (gX_X2_5 C u_1_156 dX2_parseRule_37 (x_callVi C (c_x2_accept e40) k_X2_49 (ci := 2) (q0 := 3) rfl rfl (by decide) (Nat.le_of_ble_eq_true rfl) rfl dX2_parseRule_40 (x_pop C dX2_parseRule_43 rfl (x_aload_n C dX2_parseRule_44 rfl 1 rfl (gX_X2_0 C u_1_151 dX2_parseRule_45 (x_iload_n C dX2_parseRule_48 rfl 0 rfl (x_aload_n C dX2_parseRule_49 rfl 1 rfl (gX_X2_7 C u_1_158 dX2_parseRule_50 (x_iload_n C dX2_parseRule_53 rfl 2 rfl (x_callVv C (c_x7_openRule e54) k_X2_69 (ci := 7) (q0 := 2) rfl rfl (by decide) (Nat.le_of_ble_eq_true rfl) rfl dX2_parseRule_54 (x_aload_n C dX2_parseRule_57 rfl 1 rfl (x_bipush C dX2_parseRule_58 kb_24 (x_callVi C (c_x2_accept e60) k_X2_49 (ci := 2) (q0 := 3) rfl rfl (by decide) (Nat.le_of_ble_eq_true rfl) rfl dX2_parseRule_60 (x_pop C dX2_parseRule_63 rfl (x_iload_n C dX2_parseRule_64 rfl 0 rfl (x_if_ne C (tgt := 85) dX2_parseRule_65 (by decide) (fun c => ?_) (fun c => ?_))))))))))))))))))
        · have h := ite_f h c
          exact x_perm [1, 0] rfl (w_x2_parseRule_j85 C E h)
        · have h := ite_t h c
          obtain ⟨r70, S70, e70, h⟩ := cal_some h
          obtain ⟨S75, e75, h⟩ := calV_some h
          obtain ⟨S82, e82, h⟩ := calV_some h
          exact x_aload_n C dX2_parseRule_68 rfl 1 rfl (x_iconst C dX2_parseRule_69 kc_1 (x_callVi C (c_x2_accept e70) k_X2_49 (ci := 2) (q0 := 3) rfl rfl (by decide) (Nat.le_of_ble_eq_true rfl) rfl dX2_parseRule_70 (x_pop C dX2_parseRule_73 rfl (x_aload_n C dX2_parseRule_74 rfl 1 rfl (x_callVv C (c_x2_parseExpression e75) k_X2_73 (ci := 2) (q0 := 3) rfl rfl (by decide) (Nat.le_of_ble_eq_true rfl) rfl dX2_parseRule_75 (x_aload_n C dX2_parseRule_78 rfl 1 rfl (gX_X2_0 C u_1_151 dX2_parseRule_79 (x_callVv C (c_x7_beginCondition e82) k_X2_76 (ci := 7) (q0 := 2) rfl rfl (by decide) (Nat.le_of_ble_eq_true rfl) rfl dX2_parseRule_82 (x_perm [1, 0] rfl (w_x2_parseRule_j85 C E h))))))))))
      · have h := ite_f h c
        obtain ⟨S31, e31, h⟩ := calV_some h
        exact x_aload_n C dX2_parseRule_29 rfl 1 rfl (x_iconst C dX2_parseRule_30 kc_2 (x_callVv C (c_x2_refuse e31) k_X2_66 (ci := 2) (q0 := 3) rfl rfl (by decide) (Nat.le_of_ble_eq_true rfl) rfl dX2_parseRule_31 (x_vret E h dX2_parseRule_34)))
    · have h := ite_f h c
      obtain ⟨S19, e19, h⟩ := calV_some h
      exact x_aload_n C dX2_parseRule_17 rfl 1 rfl (x_iconst C dX2_parseRule_18 kc_1 (x_callVv C (c_x2_refuse e19) k_X2_66 (ci := 2) (q0 := 3) rfl rfl (by decide) (Nat.le_of_ble_eq_true rfl) rfl dX2_parseRule_19 (x_vret E h dX2_parseRule_22)))
