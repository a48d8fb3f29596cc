set_option maxHeartbeats 4000000 in
theorem w_x3_mendAll_j66 {z : ZT} {ad : AD} {ek : EK} {lh : Launch} {Dh : va_G} {S' : ST} (C : CX z ad ek cX3_mendAll RX3 lh Dh 6 6) (E : EV z (cX ad) cX3_mendAll S') {Kb : ST → Int32 → Int32 → Int32 → Int32 → Int32 → Option ST} (hKb : ∀ (S : ST) (l1 : Int32) (l2 : Int32) (l3 : Int32) (l4 : Int32) (l5 : Int32) , Kb S l1 l2 l3 l4 l5 = some S' → XW z (cX ad) 11 [(0, .ref (ad.1 5)), (1, .int l1), (2, .int l2), (3, .int l3), (4, .int l4), (5, .int l5)] [] S) {S : ST} {l1 : Int32} {l2 : Int32} {l3 : Int32} {l4 : Int32} {l5 : Int32} (h : x3_mendAll_j66 Kb S l1 l2 l3 l4 l5 = some S') : XW z (cX ad) 66 [(0, .ref (ad.1 5)), (1, .int l1), (2, .int l2), (3, .int l3), (4, .int l4), (5, .int l5)] [] S := by
  unfold x3_mendAll_j66 at h
  exact x_iinc C dX3_mendAll_66 5 rfl ki_1 (by decide) rfl (x_goto C (tgt := 11) dX3_mendAll_69 (by decide) (x_perm [1, 2, 3, 4, 5, 0] rfl (hKb _ _ _ _ _ _ h)))
set_option maxHeartbeats 4000000 in
theorem w_x3_mendAll_h11 {z : ZT} {ad : AD} {ek : EK} {lh : Launch} {Dh : va_G} {S' : ST} (C : CX z ad ek cX3_mendAll RX3 lh Dh 6 6) (E : EV z (cX ad) cX3_mendAll S') : ∀ (n : Nat) (S : ST) (l1 : Int32) (l2 : Int32) (l3 : Int32) (l4 : Int32) (l5 : Int32), x3_mendAll_h11 n S l1 l2 l3 l4 l5 = some S' → XW z (cX ad) 11 [(0, .ref (ad.1 5)), (1, .int l1), (2, .int l2), (3, .int l3), (4, .int l4), (5, .int l5)] [] S := by
  intro n
  induction n with
  | zero => intro S l1 l2 l3 l4 l5 h; cases h
  | succ n ih =>
    intro S l1 l2 l3 l4 l5 h
    have hKb := ih
    refine x_iload C dX3_mendAll_11 5 rfl (x_iload C dX3_mendAll_13 4 rfl (x_icmp_ge C (tgt := 72) dX3_mendAll_15 (by decide) (fun c => ?_) (fun c => ?_)))
    · have h := ite_t h c
      exact (by
        exact x_vret E h dX3_mendAll_72)
    · have h := ite_f h c
      obtain ⟨r26, S26, e26, h⟩ := cal_some h
      refine x_aload_n C dX3_mendAll_18 rfl 0 rfl (gX_X3_0 C u_2_8 dX3_mendAll_19 (x_iload C dX3_mendAll_22 5 rfl (x_iload_n C dX3_mendAll_24 rfl 1 rfl (x_iload_n C dX3_mendAll_25 rfl 2 rfl (x_callVi C (c_x0_isMendBy e26) k_X3_64 (ci := 0) (q0 := 4) rfl rfl (by decide) (Nat.le_of_ble_eq_true rfl) rfl dX3_mendAll_26 (x_if_eq C (tgt := 66) dX3_mendAll_29 (by decide) (fun c => ?_) (fun c => ?_)))))))
      · have h := ite_t h c
        exact w_x3_mendAll_j66 C E hKb h
      · have h := ite_f h c
        obtain ⟨r36, S36, e36, h⟩ := cal_some h
        refine x_aload_n C dX3_mendAll_32 rfl 0 rfl (x_iload C dX3_mendAll_33 5 rfl (x_iload_n C dX3_mendAll_35 rfl 3 rfl (x_callVi C (c_x3_fate e36) k_X3_57 (ci := 3) (q0 := 5) rfl rfl (by decide) (Nat.le_of_ble_eq_true rfl) rfl dX3_mendAll_36 (x_if_ne C (tgt := 66) dX3_mendAll_39 (by decide) (fun c => ?_) (fun c => ?_)))))
        · have h := ite_f h c
          exact w_x3_mendAll_j66 C E hKb h
        · have h := ite_t h c
          obtain ⟨g52, h⟩ := G_some h
          exact x_aload_n C dX3_mendAll_42 rfl 0 rfl (x_aload_n C dX3_mendAll_43 rfl 0 rfl (gX_X3_0 C u_2_8 dX3_mendAll_44 (gX_X0_4 C u_1_205 dX3_mendAll_47 (x_iload C dX3_mendAll_50 5 rfl (aX_30 C g52 dX3_mendAll_52 (pX_X3_3 C u_2_12 dX3_mendAll_53 (x_aload_n C dX3_mendAll_56 rfl 0 rfl (x_dup C dX3_mendAll_57 rfl (gX_X3_5 C u_2_16 dX3_mendAll_58 (x_iconst C dX3_mendAll_61 kc_1 (x_iadd C dX3_mendAll_62 (pX_X3_5 C u_2_16 dX3_mendAll_63 (w_x3_mendAll_j66 C E hKb h)))))))))))))
set_option maxHeartbeats 4000000 in
theorem c_x3_mendAll {ad : AD} {ek : EK} {lh : Launch} {Dh : va_G} {S' : ST}  {S : ST} {l1 : Int32} {l2 : Int32} {l3 : Int32} {l4 : Int32} (h : x3_mendAll S l1 l2 l3 l4 = some S') : MXv lh Dh ad ek (cX ad) yX3_mendAll cX3_mendAll 6 none 6 [.ref (ad.1 5), .int l1, .int l2, .int l3, .int l4] S S' := by
  refine mxv_of (by decide) (Nat.le_of_ble_eq_true rfl) (fun z C E => ?_)
  unfold x3_mendAll at h
  obtain ⟨S3, e3, h⟩ := calV_some h
  exact x_aload_n C dX3_mendAll_0 rfl 0 rfl (x_iload_n C dX3_mendAll_1 rfl 1 rfl (x_iload_n C dX3_mendAll_2 rfl 3 rfl (x_callVv C (c_x3_putRight e3) k_X3_61 (ci := 3) (q0 := 5) rfl rfl (by decide) (Nat.le_of_ble_eq_true rfl) rfl dX3_mendAll_3 (x_iload_n C dX3_mendAll_6 rfl 1 rfl (x_iconst C dX3_mendAll_7 kc_1 (x_iadd C dX3_mendAll_8 (x_istore C dX3_mendAll_9 (by decide) rfl (x_perm [1, 2, 3, 4, 5, 0] rfl (w_x3_mendAll_h11 C E FU _ _ _ _ _ _ h)))))))))
set_option maxHeartbeats 4000000 in
theorem c_x3_fateOnItsDay {ad : AD} {ek : EK} {lh : Launch} {Dh : va_G} {r : Int32} {S' : ST}  {S : ST} {l1 : Int32} {l2 : Int32} (h : x3_fateOnItsDay S l1 l2 = some (r, S')) : MXi lh Dh ad ek (cX ad) yX3_fateOnItsDay cX3_fateOnItsDay 3 (some .int) 7 [.ref (ad.1 5), .int l1, .int l2] S r S' := by
  refine mxi_of (by decide) (Nat.le_of_ble_eq_true rfl) (fun z C E => ?_)
  unfold x3_fateOnItsDay at h
  obtain ⟨g9, h⟩ := G_some h
  obtain ⟨g18, h⟩ := G_some h
  obtain ⟨S21, e21, h⟩ := calV_some h
  obtain ⟨r27, S27, e27, h⟩ := cal_some h
  exact x_aload_n C dX3_fateOnItsDay_0 rfl 0 rfl (x_aload_n C dX3_fateOnItsDay_1 rfl 0 rfl (gX_X3_0 C u_2_8 dX3_fateOnItsDay_2 (gX_X0_8 C u_1_211 dX3_fateOnItsDay_5 (x_iload_n C dX3_fateOnItsDay_8 rfl 1 rfl (aX_34 C g9 dX3_fateOnItsDay_9 (x_aload_n C dX3_fateOnItsDay_10 rfl 0 rfl (gX_X3_0 C u_2_8 dX3_fateOnItsDay_11 (gX_X0_1 C u_1_193 dX3_fateOnItsDay_14 (x_iload_n C dX3_fateOnItsDay_17 rfl 1 rfl (aX_27 C g18 dX3_fateOnItsDay_18 (x_iload_n C dX3_fateOnItsDay_19 rfl 2 rfl (x_iload_n C dX3_fateOnItsDay_20 rfl 1 rfl (x_callVv C (c_x3_mendAll e21) k_X3_23 (ci := 3) (q0 := 5) rfl rfl (by decide) (Nat.le_of_ble_eq_true rfl) rfl dX3_fateOnItsDay_21 (x_aload_n C dX3_fateOnItsDay_24 rfl 0 rfl (x_iload_n C dX3_fateOnItsDay_25 rfl 1 rfl (x_iload_n C dX3_fateOnItsDay_26 rfl 2 rfl (x_callVi C (c_x3_fate e27) k_X3_57 (ci := 3) (q0 := 5) rfl rfl (by decide) (Nat.le_of_ble_eq_true rfl) rfl dX3_fateOnItsDay_27 (x_iret E h retI dX3_fateOnItsDay_30))))))))))))))))))
set_option maxHeartbeats 4000000 in
theorem c_x3_print {ad : AD} {ek : EK} {lh : Launch} {Dh : va_G} {S' : ST}  {S : ST} {l1 : Int32} {l2 : Int32} {l3 : Int32} (h : x3_print S l1 l2 l3 = some S') : MXv lh Dh ad ek (cX ad) yX3_print cX3_print 4 none 7 [.ref (ad.1 5), .int l1, .int l2, .int l3] S S' := by
  refine mxv_of (by decide) (Nat.le_of_ble_eq_true rfl) (fun z C E => ?_)
  unfold x3_print at h
  obtain ⟨S5, e5, h⟩ := calV_some h
  obtain ⟨r16, S16, e16, h⟩ := cal_some h
  obtain ⟨g19, h⟩ := G_some h
  obtain ⟨g32, h⟩ := G_some h
  obtain ⟨S35, e35, h⟩ := calV_some h
  obtain ⟨r49, S49, e49, h⟩ := cal_some h
  exact x_aload_n C dX3_print_0 rfl 0 rfl (x_iload_n C dX3_print_1 rfl 1 rfl (x_iload_n C dX3_print_2 rfl 2 rfl (x_iload_n C dX3_print_3 rfl 3 rfl (x_iload_n C dX3_print_4 rfl 3 rfl (x_callVv C (c_x3_mendAll e5) k_X3_23 (ci := 3) (q0 := 5) rfl rfl (by decide) (Nat.le_of_ble_eq_true rfl) rfl dX3_print_5 (x_aload_n C dX3_print_8 rfl 0 rfl (x_aload_n C dX3_print_9 rfl 0 rfl (gX_X3_0 C u_2_8 dX3_print_10 (x_iload_n C dX3_print_13 rfl 1 rfl (x_iload_n C dX3_print_14 rfl 2 rfl (x_iload_n C dX3_print_15 rfl 3 rfl (x_callVi C (c_x0_isStruckBy e16) k_X3_27 (ci := 0) (q0 := 4) rfl rfl (by decide) (Nat.le_of_ble_eq_true rfl) rfl dX3_print_16 (pX_X3_6 C u_2_18 g19 dX3_print_19 (x_aload_n C dX3_print_22 rfl 0 rfl (x_iload_n C dX3_print_23 rfl 2 rfl (x_aload_n C dX3_print_24 rfl 0 rfl (gX_X3_0 C u_2_8 dX3_print_25 (gX_X0_1 C u_1_193 dX3_print_28 (x_iload_n C dX3_print_31 rfl 1 rfl (aX_27 C g32 dX3_print_32 (x_isub C dX3_print_33 (x_iconst C dX3_print_34 kc_0 (x_callVv C (c_x3_setVariables e35) k_X3_40 (ci := 3) (q0 := 5) rfl rfl (by decide) (Nat.le_of_ble_eq_true rfl) rfl dX3_print_35 (x_aload_n C dX3_print_38 rfl 0 rfl (x_aload_n C dX3_print_39 rfl 0 rfl (gX_X3_1 C u_2_9 dX3_print_40 (x_iconst C dX3_print_43 kc_3 (x_iload_n C dX3_print_44 rfl 2 rfl (x_aload_n C dX3_print_45 rfl 0 rfl (gX_X3_2 C u_2_10 dX3_print_46 (x_callVi C (c_x7_firstThatHolds e49) k_X3_44 (ci := 7) (q0 := 2) rfl rfl (by decide) (Nat.le_of_ble_eq_true rfl) rfl dX3_print_49 (pX_X3_7 C u_2_21 dX3_print_52 (x_vret E h dX3_print_55)))))))))))))))))))))))))))))))))
set_option maxHeartbeats 4000000 in
theorem c_x11_bar {ad : AD} {ek : EK} {lh : Launch} {Dh : va_G} {r : Int32} {S' : ST}  {S : ST} {l1 : Int32} {l2 : Int32} (h : x11_bar S l1 l2 = some (r, S')) : MXi lh Dh ad ek (cX ad) yX11_bar cX11_bar 3 (some .int) 8 [.ref (ad.1 0), .int l1, .int l2] S r S' := by
  refine mxi_of (by decide) (Nat.le_of_ble_eq_true rfl) (fun z C E => ?_)
  unfold x11_bar at h
  obtain ⟨r2, S2, e2, h⟩ := cal_some h
  refine x_aload_n C dX11_bar_0 rfl 0 rfl (x_iload_n C dX11_bar_1 rfl 2 rfl (x_callVi C (c_x11_isKnown e2) k_X11_165 (ci := 11) (q0 := 0) rfl rfl (by decide) (Nat.le_of_ble_eq_true rfl) rfl dX11_bar_2 (x_if_eq C (tgt := 21) dX11_bar_5 (by decide) (fun c => ?_) (fun c => ?_))))
  · have h := ite_t h c
    exact x_iconst C dX11_bar_21 kc_m1 (x_iret E h retI dX11_bar_22)
  · have h := ite_f h c
    obtain ⟨r15, S15, e15, h⟩ := cal_some h
    refine x_aload_n C dX11_bar_8 rfl 0 rfl (gX_X11_3 C u_2_142 dX11_bar_9 (x_iload_n C dX11_bar_12 rfl 1 rfl (x_iconst C dX11_bar_13 kc_0 (x_iload_n C dX11_bar_14 rfl 2 rfl (x_callVi C (c_x0_isOfKind e15) k_X11_138 (ci := 0) (q0 := 4) rfl rfl (by decide) (Nat.le_of_ble_eq_true rfl) rfl dX11_bar_15 (x_if_ne C (tgt := 23) dX11_bar_18 (by decide) (fun c => ?_) (fun c => ?_)))))))
    · have h := ite_f h c
      obtain ⟨r29, S29, e29, h⟩ := cal_some h
      refine x_aload_n C dX11_bar_23 rfl 0 rfl (gX_X11_4 C u_2_143 dX11_bar_24 (x_iload_n C dX11_bar_27 rfl 1 rfl (x_iload_n C dX11_bar_28 rfl 2 rfl (x_callVi C (c_x3_fateOnItsDay e29) k_X11_192 (ci := 3) (q0 := 5) rfl rfl (by decide) (Nat.le_of_ble_eq_true rfl) rfl dX11_bar_29 (x_iconst C dX11_bar_32 kc_4 (x_icmp_ne C (tgt := 46) dX11_bar_33 (by decide) (fun c => ?_) (fun c => ?_)))))))
      · have h := ite_f h c
        exact x_iconst C dX11_bar_46 kc_m1 (x_iret E h retI dX11_bar_47)
      · have h := ite_t h c
        exact x_aload_n C dX11_bar_36 rfl 0 rfl (gX_X11_4 C u_2_143 dX11_bar_37 (gX_X3_8 C u_2_25 dX11_bar_40 (x_goto C (tgt := 47) dX11_bar_43 (by decide) (x_iret E h retI dX11_bar_47))))
    · have h := ite_t h c
      exact x_iconst C dX11_bar_21 kc_m1 (x_iret E h retI dX11_bar_22)
set_option maxHeartbeats 4000000 in
theorem w_x11_court_j63 {z : ZT} {ad : AD} {ek : EK} {lh : Launch} {Dh : va_G} {r : Int32} {S' : ST} (C : CX z ad ek cX11_court RX11 lh Dh 8 4) (E : EI z (cX ad) cX11_court (some .int) r S') {S : ST} {l1 : Int32} {l3 : Int32} {s0 : Int32} {s1 : Int32} {s2 : Int32} (h : x11_court_j63 S l1 l3 s0 s1 s2 = some (r, S')) : XW z (cX ad) 63 [(0, .ref (ad.1 0)), (1, .int l1), (3, .int l3)] [.int s0, .int s1, .int s2, .ref (ad.1 5)] S := by
  unfold x11_court_j63 at h
  obtain ⟨S63, e63, h⟩ := calV_some h
  refine x_callVv C (c_x3_print e63) k_X11_171 (ci := 3) (q0 := 5) rfl rfl (by decide) (Nat.le_of_ble_eq_true rfl) rfl dX11_court_63 (x_iload_n C dX11_court_66 rfl 2 rfl (x_iconst C dX11_court_67 kc_1 (x_icmp_ne C (tgt := 88) dX11_court_68 (by decide) (fun c => ?_) (fun c => ?_))))
  · have h := ite_f h c
    refine x_aload_n C dX11_court_88 rfl 0 rfl (gX_X11_4 C u_2_143 dX11_court_89 (gX_X3_6 C u_2_20 dX11_court_92 (x_if_eq C (tgt := 102) dX11_court_95 (by decide) (fun c => ?_) (fun c => ?_))))
    · have h := ite_t h c
      exact x_aload_n C dX11_court_102 rfl 0 rfl (gX_X11_4 C u_2_143 dX11_court_103 (gX_X3_3 C u_2_13 dX11_court_106 (x_iret E h retI dX11_court_109)))
    · have h := ite_f h c
      exact x_iconst C dX11_court_98 kc_0 (x_goto C (tgt := 109) dX11_court_99 (by decide) (x_iret E h retI dX11_court_109))
  · have h := ite_t h c
    obtain ⟨g83, h⟩ := G_some h
    obtain ⟨r84, S84, e84, h⟩ := cal_some h
    exact x_aload_n C dX11_court_71 rfl 0 rfl (gX_X11_4 C u_2_143 dX11_court_72 (x_aload_n C dX11_court_75 rfl 0 rfl (gX_X11_3 C u_2_142 dX11_court_76 (gX_X0_1 C u_1_196 dX11_court_79 (x_iload_n C dX11_court_82 rfl 1 rfl (aX_27 C g83 dX11_court_83 (x_callVi C (c_x3_keptFromCourt e84) k_X11_208 (ci := 3) (q0 := 5) rfl rfl (by decide) (Nat.le_of_ble_eq_true rfl) rfl dX11_court_84 (x_iret E h retI dX11_court_87))))))))
set_option maxHeartbeats 4000000 in
theorem c_x11_court {ad : AD} {ek : EK} {lh : Launch} {Dh : va_G} {r : Int32} {S' : ST}  {S : ST} {l1 : Int32} {l2 : Int32} {l3 : Int32} (h : x11_court S l1 l2 l3 = some (r, S')) : MXi lh Dh ad ek (cX ad) yX11_court cX11_court 4 (some .int) 8 [.ref (ad.1 0), .int l1, .int l2, .int l3] S r S' := by
  refine mxi_of (by decide) (Nat.le_of_ble_eq_true rfl) (fun z C E => ?_)
  unfold x11_court at h
  obtain ⟨r2, S2, e2, h⟩ := cal_some h
  refine x_aload_n C dX11_court_0 rfl 0 rfl (x_iload_n C dX11_court_1 rfl 2 rfl (x_callVi C (c_x11_isKnown e2) k_X11_165 (ci := 11) (q0 := 0) rfl rfl (by decide) (Nat.le_of_ble_eq_true rfl) rfl dX11_court_2 (x_if_eq C (tgt := 29) dX11_court_5 (by decide) (fun c => ?_) (fun c => ?_))))
  · have h := ite_t h c
    exact x_iconst C dX11_court_29 kc_m1 (x_iret E h retI dX11_court_30)
  · have h := ite_f h c
    obtain ⟨r15, S15, e15, h⟩ := cal_some h
    refine x_aload_n C dX11_court_8 rfl 0 rfl (gX_X11_3 C u_2_142 dX11_court_9 (x_iload_n C dX11_court_12 rfl 1 rfl (x_iconst C dX11_court_13 kc_3 (x_iload_n C dX11_court_14 rfl 2 rfl (x_callVi C (c_x0_isOfKind e15) k_X11_138 (ci := 0) (q0 := 4) rfl rfl (by decide) (Nat.le_of_ble_eq_true rfl) rfl dX11_court_15 (x_if_eq C (tgt := 29) dX11_court_18 (by decide) (fun c => ?_) (fun c => ?_)))))))
    · have h := ite_t h c
      exact x_iconst C dX11_court_29 kc_m1 (x_iret E h retI dX11_court_30)
    · have h := ite_f h c
      obtain ⟨r23, e23, h⟩ := cal0_some h
      refine x_iload_n C dX11_court_21 rfl 3 rfl (x_iconst C dX11_court_22 kc_3 (x_callSi C (c_x11_isBelow e23) k_X11_113 (by decide) (Nat.le_of_ble_eq_true rfl) rfl dX11_court_23 (x_if_ne C (tgt := 31) dX11_court_26 (by decide) (fun c => ?_) (fun c => ?_))))
      · have h := ite_f h c
        obtain ⟨g43, h⟩ := G_some h
        obtain ⟨g52, h⟩ := G_some h
        refine x_aload_n C dX11_court_31 rfl 0 rfl (gX_X11_4 C u_2_143 dX11_court_32 (x_aload_n C dX11_court_35 rfl 0 rfl (gX_X11_3 C u_2_142 dX11_court_36 (gX_X0_8 C u_1_212 dX11_court_39 (x_iload_n C dX11_court_42 rfl 1 rfl (aX_34 C g43 dX11_court_43 (x_aload_n C dX11_court_44 rfl 0 rfl (gX_X11_3 C u_2_142 dX11_court_45 (gX_X0_1 C u_1_196 dX11_court_48 (x_iload_n C dX11_court_51 rfl 1 rfl (aX_27 C g52 dX11_court_52 (x_iload_n C dX11_court_53 rfl 3 rfl (x_iconst C dX11_court_54 kc_2 (x_icmp_ne C (tgt := 62) dX11_court_55 (by decide) (fun c => ?_) (fun c => ?_)))))))))))))))
        · have h := ite_f h c
          exact x_iload_n C dX11_court_62 rfl 1 rfl (x_perm [0, 1, 3] rfl (w_x11_court_j63 C E h))
        · have h := ite_t h c
          exact x_iload_n C dX11_court_58 rfl 2 rfl (x_goto C (tgt := 63) dX11_court_59 (by decide) (x_perm [0, 1, 3] rfl (w_x11_court_j63 C E h)))
      · have h := ite_t h c
        exact x_iconst C dX11_court_29 kc_m1 (x_iret E h retI dX11_court_30)
set_option maxHeartbeats 4000000 in
theorem c_x11_mended {ad : AD} {ek : EK} {lh : Launch} {Dh : va_G} {r : Int32} {S' : ST}  {S : ST} {l1 : Int32} {l2 : Int32} (h : x11_mended S l1 l2 = some (r, S')) : MXi lh Dh ad ek (cX ad) yX11_mended cX11_mended 3 (some .int) 8 [.ref (ad.1 0), .int l1, .int l2] S r S' := by
  refine mxi_of (by decide) (Nat.le_of_ble_eq_true rfl) (fun z C E => ?_)
  unfold x11_mended at h
  obtain ⟨r2, S2, e2, h⟩ := cal_some h
  refine x_aload_n C dX11_mended_0 rfl 0 rfl (x_iload_n C dX11_mended_1 rfl 2 rfl (x_callVi C (c_x11_isKnown e2) k_X11_165 (ci := 11) (q0 := 0) rfl rfl (by decide) (Nat.le_of_ble_eq_true rfl) rfl dX11_mended_2 (x_if_eq C (tgt := 21) dX11_mended_5 (by decide) (fun c => ?_) (fun c => ?_))))
  · have h := ite_t h c
    exact x_iconst C dX11_mended_21 kc_m1 (x_iret E h retI dX11_mended_22)
  · have h := ite_f h c
    obtain ⟨r15, S15, e15, h⟩ := cal_some h
    refine x_aload_n C dX11_mended_8 rfl 0 rfl (gX_X11_3 C u_2_142 dX11_mended_9 (x_iload_n C dX11_mended_12 rfl 1 rfl (x_iconst C dX11_mended_13 kc_0 (x_iload_n C dX11_mended_14 rfl 2 rfl (x_callVi C (c_x0_isOfKind e15) k_X11_138 (ci := 0) (q0 := 4) rfl rfl (by decide) (Nat.le_of_ble_eq_true rfl) rfl dX11_mended_15 (x_if_ne C (tgt := 23) dX11_mended_18 (by decide) (fun c => ?_) (fun c => ?_)))))))
    · have h := ite_f h c
      obtain ⟨r29, S29, e29, h⟩ := cal_some h
      exact x_aload_n C dX11_mended_23 rfl 0 rfl (gX_X11_4 C u_2_143 dX11_mended_24 (x_iload_n C dX11_mended_27 rfl 1 rfl (x_iload_n C dX11_mended_28 rfl 2 rfl (x_callVi C (c_x3_fateOnItsDay e29) k_X11_192 (ci := 3) (q0 := 5) rfl rfl (by decide) (Nat.le_of_ble_eq_true rfl) rfl dX11_mended_29 (x_iret E h retI dX11_mended_32)))))
    · have h := ite_t h c
      exact x_iconst C dX11_mended_21 kc_m1 (x_iret E h retI dX11_mended_22)
set_option maxHeartbeats 4000000 in
theorem c_x11_printed {ad : AD} {ek : EK} {lh : Launch} {Dh : va_G} {r : Int32} {S' : ST}  {S : ST} {l1 : Int32} {l2 : Int32} {l3 : Int32} {l4 : Int32} (h : x11_printed S l1 l2 l3 l4 = some (r, S')) : MXi lh Dh ad ek (cX ad) yX11_printed cX11_printed 5 (some .int) 8 [.ref (ad.1 0), .int l1, .int l2, .int l3, .int l4] S r S' := by
  refine mxi_of (by decide) (Nat.le_of_ble_eq_true rfl) (fun z C E => ?_)
  unfold x11_printed at h
  obtain ⟨r2, S2, e2, h⟩ := cal_some h
  refine x_aload_n C dX11_printed_0 rfl 0 rfl (x_iload_n C dX11_printed_1 rfl 3 rfl (x_callVi C (c_x11_isKnown e2) k_X11_165 (ci := 11) (q0 := 0) rfl rfl (by decide) (Nat.le_of_ble_eq_true rfl) rfl dX11_printed_2 (x_if_eq C (tgt := 53) dX11_printed_5 (by decide) (fun c => ?_) (fun c => ?_))))
  · have h := ite_t h c
    exact x_iconst C dX11_printed_53 kc_m1 (x_iret E h retI dX11_printed_54)
  · have h := ite_f h c
    obtain ⟨r15, S15, e15, h⟩ := cal_some h
    refine x_aload_n C dX11_printed_8 rfl 0 rfl (gX_X11_3 C u_2_142 dX11_printed_9 (x_iload_n C dX11_printed_12 rfl 1 rfl (x_iconst C dX11_printed_13 kc_4 (x_iload_n C dX11_printed_14 rfl 3 rfl (x_callVi C (c_x0_isOfKind e15) k_X11_138 (ci := 0) (q0 := 4) rfl rfl (by decide) (Nat.le_of_ble_eq_true rfl) rfl dX11_printed_15 (x_if_eq C (tgt := 53) dX11_printed_18 (by decide) (fun c => ?_) (fun c => ?_)))))))
    · have h := ite_t h c
      exact x_iconst C dX11_printed_53 kc_m1 (x_iret E h retI dX11_printed_54)
    · have h := ite_f h c
      obtain ⟨r24, e24, h⟩ := cal0_some h
      refine x_iload_n C dX11_printed_21 rfl 2 rfl (x_bipush C dX11_printed_22 kb_100 (x_callSi C (c_x11_isBelow e24) k_X11_113 (by decide) (Nat.le_of_ble_eq_true rfl) rfl dX11_printed_24 (x_if_eq C (tgt := 53) dX11_printed_27 (by decide) (fun c => ?_) (fun c => ?_))))
      · have h := ite_t h c
        exact x_iconst C dX11_printed_53 kc_m1 (x_iret E h retI dX11_printed_54)
      · have h := ite_f h c
        obtain ⟨g39, h⟩ := G_some h
        refine x_iload_n C dX11_printed_30 rfl 2 rfl (x_aload_n C dX11_printed_31 rfl 0 rfl (gX_X11_3 C u_2_142 dX11_printed_32 (gX_X0_1 C u_1_196 dX11_printed_35 (x_iload_n C dX11_printed_38 rfl 1 rfl (aX_27 C g39 dX11_printed_39 (x_icmp_lt C (tgt := 53) dX11_printed_40 (by decide) (fun c => ?_) (fun c => ?_)))))))
        · have h := ite_t h c
          exact x_iconst C dX11_printed_53 kc_m1 (x_iret E h retI dX11_printed_54)
        · have h := ite_f h c
          obtain ⟨r47, e47, h⟩ := cal0_some h
          refine x_iload C dX11_printed_43 4 rfl (x_bipush C dX11_printed_45 kb_6 (x_callSi C (c_x11_isBelow e47) k_X11_113 (by decide) (Nat.le_of_ble_eq_true rfl) rfl dX11_printed_47 (x_if_ne C (tgt := 55) dX11_printed_50 (by decide) (fun c => ?_) (fun c => ?_))))
          · have h := ite_f h c
            obtain ⟨S62, e62, h⟩ := calV_some h
            refine x_aload_n C dX11_printed_55 rfl 0 rfl (gX_X11_4 C u_2_143 dX11_printed_56 (x_iload_n C dX11_printed_59 rfl 1 rfl (x_iload_n C dX11_printed_60 rfl 2 rfl (x_iload_n C dX11_printed_61 rfl 3 rfl (x_callVv C (c_x3_print e62) k_X11_171 (ci := 3) (q0 := 5) rfl rfl (by decide) (Nat.le_of_ble_eq_true rfl) rfl dX11_printed_62 (x_iload C dX11_printed_65 4 rfl (?_)))))))
            refine x_case 0 (fun c0 => ?_) (fun c0 => ?_)
            · have h := ite_t h c0
              refine x_table C (tgt := 100) dX11_printed_67 (by decide) (by rw [c0]; decide) ?_
              exact x_aload_n C dX11_printed_100 rfl 0 rfl (gX_X11_4 C u_2_143 dX11_printed_101 (gX_X3_3 C u_2_13 dX11_printed_104 (x_iret E h retI dX11_printed_107)))
            · have h := ite_f h c0
              refine x_case 1 (fun c1 => ?_) (fun c1 => ?_)
              · have h := ite_t h c1
                refine x_table C (tgt := 108) dX11_printed_67 (by decide) (by rw [c1]; decide) ?_
                refine x_aload_n C dX11_printed_108 rfl 0 rfl (gX_X11_4 C u_2_143 dX11_printed_109 (gX_X3_6 C u_2_20 dX11_printed_112 (x_if_eq C (tgt := 122) dX11_printed_115 (by decide) (fun c => ?_) (fun c => ?_))))
                · have h := ite_t h c
                  exact x_iconst C dX11_printed_122 kc_0 (x_iret E h retI dX11_printed_123)
                · have h := ite_f h c
                  exact x_iconst C dX11_printed_118 kc_1 (x_goto C (tgt := 123) dX11_printed_119 (by decide) (x_iret E h retI dX11_printed_123))
              · have h := ite_f h c1
                refine x_case 2 (fun c2 => ?_) (fun c2 => ?_)
                · have h := ite_t h c2
                  refine x_table C (tgt := 124) dX11_printed_67 (by decide) (by rw [c2]; decide) ?_
                  exact x_aload_n C dX11_printed_124 rfl 0 rfl (gX_X11_4 C u_2_143 dX11_printed_125 (gX_X3_7 C u_2_23 dX11_printed_128 (x_iret E h retI dX11_printed_131)))
                · have h := ite_f h c2
                  refine x_case 3 (fun c3 => ?_) (fun c3 => ?_)
                  · have h := ite_t h c3
                    refine x_table C (tgt := 132) dX11_printed_67 (by decide) (by rw [c3]; decide) ?_
                    exact x_aload_n C dX11_printed_132 rfl 0 rfl (gX_X11_4 C u_2_143 dX11_printed_133 (gX_X3_4 C u_2_15 dX11_printed_136 (x_iret E h retI dX11_printed_139)))
                  · have h := ite_f h c3
                    refine x_case 4 (fun c4 => ?_) (fun c4 => ?_)
                    · have h := ite_t h c4
                      refine x_table C (tgt := 140) dX11_printed_67 (by decide) (by rw [c4]; decide) ?_
                      exact x_aload_n C dX11_printed_140 rfl 0 rfl (gX_X11_4 C u_2_143 dX11_printed_141 (gX_X3_5 C u_2_17 dX11_printed_144 (x_iret E h retI dX11_printed_147)))
                    · have h := ite_f h c4
                      refine x_table C (tgt := 148) dX11_printed_67 (by decide) (by rw [tsw_d [0, 1, 2, 3, 4] (by intro k hk; simp only [List.mem_cons, List.not_mem_nil, or_false] at hk; rcases hk with rfl | rfl | rfl | rfl | rfl <;> assumption) (by decide)]; decide) ?_
                      exact x_aload_n C dX11_printed_148 rfl 0 rfl (gX_X11_4 C u_2_143 dX11_printed_149 (gX_X3_9 C u_2_27 dX11_printed_152 (x_iret E h retI dX11_printed_155)))
          · have h := ite_t h c
            exact x_iconst C dX11_printed_53 kc_m1 (x_iret E h retI dX11_printed_54)
set_option maxHeartbeats 4000000 in
theorem w_x1_listNaming_j108 {z : ZT} {ad : AD} {lh : Launch} {Dh : va_G} {S' : ST} (C : CX z ad (ekX ad) cX1_listNaming RX1 lh Dh 8 5) (E : EV z (cX ad) cX1_listNaming S') {Kb : ST → Int32 → Int32 → Int32 → Option ST} (hKb : ∀ (S : ST) (l2 : Int32) (l3 : Int32) (l4 : Int32) , Kb S l2 l3 l4 = some S' → XW z (cX ad) 18 [(0, .ref (ad.1 6)), (2, .int l2), (3, .int l3), (4, .int l4)] [] S) {S : ST} {l2 : Int32} {l3 : Int32} {l4 : Int32} (h : x1_listNaming_j108 Kb S l2 l3 l4 = some S') : XW z (cX ad) 108 [(0, .ref (ad.1 6)), (2, .int l2), (3, .int l3), (4, .int l4)] [] S := by
  unfold x1_listNaming_j108 at h
  exact x_iinc C dX1_listNaming_108 3 rfl ki_1 (by decide) rfl (x_goto C (tgt := 18) dX1_listNaming_111 (by decide) (x_perm [1, 2, 3, 0] rfl (hKb _ _ _ _ h)))
set_option maxHeartbeats 4000000 in
theorem w_x1_listNaming_h18 {z : ZT} {ad : AD} {lh : Launch} {Dh : va_G} {S' : ST} (C : CX z ad (ekX ad) cX1_listNaming RX1 lh Dh 8 5) (E : EV z (cX ad) cX1_listNaming S') : ∀ (n : Nat) (S : ST) (l2 : Int32) (l3 : Int32) (l4 : Int32), x1_listNaming_h18 n S l2 l3 l4 = some S' → XW z (cX ad) 18 [(0, .ref (ad.1 6)), (2, .int l2), (3, .int l3), (4, .int l4)] [] S := by
  intro n
  induction n with
  | zero => intro S l2 l3 l4 h; cases h
  | succ n ih =>
    intro S l2 l3 l4 h
    have hKb := ih
    refine x_iload C dX1_listNaming_18 3 rfl (x_iload_n C dX1_listNaming_20 rfl 2 rfl (x_icmp_ge C (tgt := 114) dX1_listNaming_21 (by decide) (fun c => ?_) (fun c => ?_)))
    · have h := ite_t h c
      exact (by
        exact x_vret E h dX1_listNaming_114)
    · have h := ite_f h c
      obtain ⟨g33, h⟩ := G_some h
      refine x_aload_n C dX1_listNaming_24 rfl 0 rfl (gX_X1_0 C u_2_69 dX1_listNaming_25 (gX_X0_0 C u_1_190 dX1_listNaming_28 (x_iload C dX1_listNaming_31 3 rfl (aX_26 C g33 dX1_listNaming_33 (x_iconst C dX1_listNaming_34 kc_4 (x_icmp_ne C (tgt := 108) dX1_listNaming_35 (by decide) (fun c => ?_) (fun c => ?_)))))))
      · have h := ite_f h c
        exact w_x1_listNaming_j108 C E hKb h
      · have h := ite_t h c
        obtain ⟨g47, h⟩ := G_some h
        refine x_aload_n C dX1_listNaming_38 rfl 0 rfl (gX_X1_0 C u_2_69 dX1_listNaming_39 (gX_X0_1 C u_1_194 dX1_listNaming_42 (x_iload C dX1_listNaming_45 3 rfl (aX_27 C g47 dX1_listNaming_47 (x_iload_n C dX1_listNaming_48 rfl 1 rfl (x_icmp_gt C (tgt := 108) dX1_listNaming_49 (by decide) (fun c => ?_) (fun c => ?_)))))))
        · have h := ite_t h c
          exact w_x1_listNaming_j108 C E hKb h
        · have h := ite_f h c
          obtain ⟨S60, e60, h⟩ := calV_some h
          refine x_aload_n C dX1_listNaming_52 rfl 0 rfl (gX_X1_1 C u_2_70 dX1_listNaming_53 (x_iload C dX1_listNaming_56 3 rfl (x_iload_n C dX1_listNaming_58 rfl 1 rfl (x_iload_n C dX1_listNaming_59 rfl 2 rfl (x_callVv C (c_x3_print e60) k_X1_39 (ci := 3) (q0 := 5) rfl rfl (by decide) (Nat.le_of_ble_eq_true rfl) rfl dX1_listNaming_60 (x_aload_n C dX1_listNaming_63 rfl 0 rfl (gX_X1_1 C u_2_70 dX1_listNaming_64 (gX_X3_7 C u_2_22 dX1_listNaming_67 (x_bipush C dX1_listNaming_70 kb_m2 (x_icmp_ne C (tgt := 108) dX1_listNaming_72 (by decide) (fun c => ?_) (fun c => ?_)))))))))))
          · have h := ite_f h c
            exact w_x1_listNaming_j108 C E hKb h
          · have h := ite_t h c
            refine x_aload_n C dX1_listNaming_75 rfl 0 rfl (gX_X1_1 C u_2_70 dX1_listNaming_76 (gX_X3_6 C u_2_19 dX1_listNaming_79 (x_if_ne C (tgt := 108) dX1_listNaming_82 (by decide) (fun c => ?_) (fun c => ?_))))
            · have h := ite_f h c
              exact w_x1_listNaming_j108 C E hKb h
            · have h := ite_t h c
              obtain ⟨r96, S96, e96, h⟩ := cal_some h
              refine x_aload_n C dX1_listNaming_85 rfl 0 rfl (gX_X1_2 C u_2_71 dX1_listNaming_86 (x_aload_n C dX1_listNaming_89 rfl 0 rfl (gX_X1_1 C u_2_70 dX1_listNaming_90 (gX_X3_3 C u_2_11 dX1_listNaming_93 (x_callVi C (c_x5_gathered e96) k_X1_64 (ci := 5) (q0 := 7) rfl rfl (by decide) (Nat.le_of_ble_eq_true rfl) rfl dX1_listNaming_96 (x_if_eq C (tgt := 108) dX1_listNaming_99 (by decide) (fun c => ?_) (fun c => ?_)))))))
              · have h := ite_t h c
                exact w_x1_listNaming_j108 C E hKb h
              · have h := ite_f h c
                obtain ⟨S105, e105, h⟩ := calV_some h
                exact x_aload_n C dX1_listNaming_102 rfl 0 rfl (x_iload C dX1_listNaming_103 3 rfl (x_callVv C (c_x1_insert e105) k_X1_48 (ci := 1) (q0 := 6) rfl rfl (by decide) (Nat.le_of_ble_eq_true rfl) rfl dX1_listNaming_105 (w_x1_listNaming_j108 C E hKb h)))
set_option maxHeartbeats 4000000 in
theorem c_x1_listNaming {ad : AD} {lh : Launch} {Dh : va_G} {S' : ST}  {S : ST} {l1 : Int32} {l2 : Int32} {l3 : Int32} (h : x1_listNaming S l1 l2 l3 = some S') : MXv lh Dh ad (ekX ad) (cX ad) yX1_listNaming cX1_listNaming 5 none 8 [.ref (ad.1 6), .int l1, .int l2, .int l3] S S' := by
  refine mxv_of (by decide) (Nat.le_of_ble_eq_true rfl) (fun z C E => ?_)
  unfold x1_listNaming at h
  obtain ⟨S7, e7, h⟩ := calV_some h
  exact x_aload_n C dX1_listNaming_0 rfl 0 rfl (gX_X1_2 C u_2_71 dX1_listNaming_1 (x_iload_n C dX1_listNaming_4 rfl 1 rfl (x_iload_n C dX1_listNaming_5 rfl 2 rfl (x_iload_n C dX1_listNaming_6 rfl 3 rfl (x_callVv C (c_x5_gather e7) k_X1_52 (ci := 5) (q0 := 7) rfl rfl (by decide) (Nat.le_of_ble_eq_true rfl) rfl dX1_listNaming_7 (x_aload_n C dX1_listNaming_10 rfl 0 rfl (x_iconst C dX1_listNaming_11 kc_0 (pX_X1_4 C u_2_73 dX1_listNaming_12 (x_iconst C dX1_listNaming_15 kc_0 (x_istore C dX1_listNaming_16 (by decide) rfl (x_perm [1, 3, 4, 0] rfl (w_x1_listNaming_h18 C E FU _ _ _ _ h))))))))))))
set_option maxHeartbeats 4000000 in
theorem w_x1_listPrint_j71 {z : ZT} {ad : AD} {ek : EK} {lh : Launch} {Dh : va_G} {S' : ST} (C : CX z ad ek cX1_listPrint RX1 lh Dh 8 5) (E : EV z (cX ad) cX1_listPrint S') {Kb : ST → Int32 → Int32 → Int32 → Int32 → Option ST} (hKb : ∀ (S : ST) (l1 : Int32) (l2 : Int32) (l3 : Int32) (l4 : Int32) , Kb S l1 l2 l3 l4 = some S' → XW z (cX ad) 8 [(0, .ref (ad.1 6)), (1, .int l1), (2, .int l2), (3, .int l3), (4, .int l4)] [] S) {S : ST} {l1 : Int32} {l2 : Int32} {l3 : Int32} {l4 : Int32} (h : x1_listPrint_j71 Kb S l1 l2 l3 l4 = some S') : XW z (cX ad) 71 [(0, .ref (ad.1 6)), (1, .int l1), (2, .int l2), (3, .int l3), (4, .int l4)] [] S := by
  unfold x1_listPrint_j71 at h
  exact x_iinc C dX1_listPrint_71 4 rfl ki_1 (by decide) rfl (x_goto C (tgt := 8) dX1_listPrint_74 (by decide) (x_perm [1, 2, 3, 4, 0] rfl (hKb _ _ _ _ _ h)))
set_option maxHeartbeats 4000000 in
theorem w_x1_listPrint_h8 {z : ZT} {ad : AD} {ek : EK} {lh : Launch} {Dh : va_G} {S' : ST} (C : CX z ad ek cX1_listPrint RX1 lh Dh 8 5) (E : EV z (cX ad) cX1_listPrint S') : ∀ (n : Nat) (S : ST) (l1 : Int32) (l2 : Int32) (l3 : Int32) (l4 : Int32), x1_listPrint_h8 n S l1 l2 l3 l4 = some S' → XW z (cX ad) 8 [(0, .ref (ad.1 6)), (1, .int l1), (2, .int l2), (3, .int l3), (4, .int l4)] [] S := by
  intro n
  induction n with
  | zero => intro S l1 l2 l3 l4 h; cases h
  | succ n ih =>
    intro S l1 l2 l3 l4 h
    have hKb := ih
    refine x_iload C dX1_listPrint_8 4 rfl (x_iload_n C dX1_listPrint_10 rfl 3 rfl (x_icmp_ge C (tgt := 77) dX1_listPrint_11 (by decide) (fun c => ?_) (fun c => ?_)))
    · have h := ite_t h c
      exact (by
        exact x_vret E h dX1_listPrint_77)
    · have h := ite_f h c
      obtain ⟨g23, h⟩ := G_some h
      refine x_aload_n C dX1_listPrint_14 rfl 0 rfl (gX_X1_0 C u_2_69 dX1_listPrint_15 (gX_X0_0 C u_1_190 dX1_listPrint_18 (x_iload C dX1_listPrint_21 4 rfl (aX_26 C g23 dX1_listPrint_23 (x_iconst C dX1_listPrint_24 kc_4 (x_icmp_ne C (tgt := 71) dX1_listPrint_25 (by decide) (fun c => ?_) (fun c => ?_)))))))
      · have h := ite_f h c
        exact w_x1_listPrint_j71 C E hKb h
      · have h := ite_t h c
        obtain ⟨g37, h⟩ := G_some h
        refine x_aload_n C dX1_listPrint_28 rfl 0 rfl (gX_X1_0 C u_2_69 dX1_listPrint_29 (gX_X0_1 C u_1_194 dX1_listPrint_32 (x_iload C dX1_listPrint_35 4 rfl (aX_27 C g37 dX1_listPrint_37 (x_iload_n C dX1_listPrint_38 rfl 1 rfl (x_icmp_ne C (tgt := 71) dX1_listPrint_39 (by decide) (fun c => ?_) (fun c => ?_)))))))
        · have h := ite_f h c
          exact w_x1_listPrint_j71 C E hKb h
        · have h := ite_t h c
          obtain ⟨S50, e50, h⟩ := calV_some h
          refine x_aload_n C dX1_listPrint_42 rfl 0 rfl (gX_X1_1 C u_2_70 dX1_listPrint_43 (x_iload C dX1_listPrint_46 4 rfl (x_iload_n C dX1_listPrint_48 rfl 2 rfl (x_iload_n C dX1_listPrint_49 rfl 3 rfl (x_callVv C (c_x3_print e50) k_X1_39 (ci := 3) (q0 := 5) rfl rfl (by decide) (Nat.le_of_ble_eq_true rfl) rfl dX1_listPrint_50 (x_aload_n C dX1_listPrint_53 rfl 0 rfl (gX_X1_1 C u_2_70 dX1_listPrint_54 (gX_X3_7 C u_2_22 dX1_listPrint_57 (x_bipush C dX1_listPrint_60 kb_m2 (x_icmp_ne C (tgt := 71) dX1_listPrint_62 (by decide) (fun c => ?_) (fun c => ?_)))))))))))
          · have h := ite_f h c
            exact w_x1_listPrint_j71 C E hKb h
          · have h := ite_t h c
            obtain ⟨S68, e68, h⟩ := calV_some h
            exact x_aload_n C dX1_listPrint_65 rfl 0 rfl (x_iload C dX1_listPrint_66 4 rfl (x_callVv C (c_x1_insert e68) k_X1_48 (ci := 1) (q0 := 6) rfl rfl (by decide) (Nat.le_of_ble_eq_true rfl) rfl dX1_listPrint_68 (w_x1_listPrint_j71 C E hKb h)))
set_option maxHeartbeats 4000000 in
theorem c_x1_listPrint {ad : AD} {ek : EK} {lh : Launch} {Dh : va_G} {S' : ST}  {S : ST} {l1 : Int32} {l2 : Int32} {l3 : Int32} (h : x1_listPrint S l1 l2 l3 = some S') : MXv lh Dh ad ek (cX ad) yX1_listPrint cX1_listPrint 5 none 8 [.ref (ad.1 6), .int l1, .int l2, .int l3] S S' := by
  refine mxv_of (by decide) (Nat.le_of_ble_eq_true rfl) (fun z C E => ?_)
  unfold x1_listPrint at h
  exact x_aload_n C dX1_listPrint_0 rfl 0 rfl (x_iconst C dX1_listPrint_1 kc_0 (pX_X1_4 C u_2_73 dX1_listPrint_2 (x_iconst C dX1_listPrint_5 kc_0 (x_istore C dX1_listPrint_6 (by decide) rfl (x_perm [1, 2, 3, 4, 0] rfl (w_x1_listPrint_h8 C E FU _ _ _ _ _ h))))))
set_option maxHeartbeats 4000000 in
theorem c_x11_at {ad : AD} {ek : EK} {lh : Launch} {Dh : va_G} {r : Int32} {S' : ST}  {S : ST} {l1 : Int32} {l2 : Int32} {l3 : Int32} {l4 : Int32} (h : x11_at S l1 l2 l3 l4 = some (r, S')) : MXi lh Dh ad ek (cX ad) yX11_at cX11_at 5 (some .int) 9 [.ref (ad.1 0), .int l1, .int l2, .int l3, .int l4] S r S' := by
  refine mxi_of (by decide) (Nat.le_of_ble_eq_true rfl) (fun z C E => ?_)
  unfold x11_at at h
  obtain ⟨r4, S4, e4, h⟩ := cal_some h
  refine x_aload_n C dX11_at_0 rfl 0 rfl (x_iload_n C dX11_at_1 rfl 1 rfl (x_iload_n C dX11_at_2 rfl 2 rfl (x_iload_n C dX11_at_3 rfl 3 rfl (x_callVi C (c_x11_isPrint e4) k_X11_198 (ci := 11) (q0 := 0) rfl rfl (by decide) (Nat.le_of_ble_eq_true rfl) rfl dX11_at_4 (x_if_ne C (tgt := 12) dX11_at_7 (by decide) (fun c => ?_) (fun c => ?_))))))
  · have h := ite_f h c
    obtain ⟨S19, e19, h⟩ := calV_some h
    obtain ⟨r28, S28, e28, h⟩ := cal_some h
    exact x_aload_n C dX11_at_12 rfl 0 rfl (gX_X11_5 C u_2_144 dX11_at_13 (x_iload_n C dX11_at_16 rfl 1 rfl (x_iload_n C dX11_at_17 rfl 2 rfl (x_iload_n C dX11_at_18 rfl 3 rfl (x_callVv C (c_x1_listPrint e19) k_X11_201 (ci := 1) (q0 := 6) rfl rfl (by decide) (Nat.le_of_ble_eq_true rfl) rfl dX11_at_19 (x_aload_n C dX11_at_22 rfl 0 rfl (gX_X11_5 C u_2_144 dX11_at_23 (x_iload C dX11_at_26 4 rfl (x_callVi C (c_x1_entry e28) k_X11_205 (ci := 1) (q0 := 6) rfl rfl (by decide) (Nat.le_of_ble_eq_true rfl) rfl dX11_at_28 (x_iret E h retI dX11_at_31))))))))))
  · have h := ite_t h c
    exact x_iconst C dX11_at_10 kc_m1 (x_iret E h retI dX11_at_11)
set_option maxHeartbeats 4000000 in
theorem c_x11_found {ad : AD} {lh : Launch} {Dh : va_G} {r : Int32} {S' : ST}  {S : ST} {l1 : Int32} {l2 : Int32} {l3 : Int32} {l4 : Int32} (h : x11_found S l1 l2 l3 l4 = some (r, S')) : MXi lh Dh ad (ekX ad) (cX ad) yX11_found cX11_found 5 (some .int) 9 [.ref (ad.1 0), .int l1, .int l2, .int l3, .int l4] S r S' := by
  refine mxi_of (by decide) (Nat.le_of_ble_eq_true rfl) (fun z C E => ?_)
  unfold x11_found at h
  obtain ⟨r1, e1, h⟩ := cal0_some h
  refine x_iload_n C dX11_found_0 rfl 1 rfl (x_callSi C (c_x11_isWord e1) k_X11_105 (by decide) (Nat.le_of_ble_eq_true rfl) rfl dX11_found_1 (x_if_eq C (tgt := 24) dX11_found_4 (by decide) (fun c => ?_) (fun c => ?_)))
  · have h := ite_t h c
    exact x_iconst C dX11_found_24 kc_m1 (x_iret E h retI dX11_found_25)
  · have h := ite_f h c
    obtain ⟨r10, e10, h⟩ := cal0_some h
    refine x_iload_n C dX11_found_7 rfl 2 rfl (x_bipush C dX11_found_8 kb_100 (x_callSi C (c_x11_isBelow e10) k_X11_113 (by decide) (Nat.le_of_ble_eq_true rfl) rfl dX11_found_10 (x_if_eq C (tgt := 24) dX11_found_13 (by decide) (fun c => ?_) (fun c => ?_))))
    · have h := ite_t h c
      exact x_iconst C dX11_found_24 kc_m1 (x_iret E h retI dX11_found_25)
    · have h := ite_f h c
      obtain ⟨r18, S18, e18, h⟩ := cal_some h
      refine x_aload_n C dX11_found_16 rfl 0 rfl (x_iload_n C dX11_found_17 rfl 3 rfl (x_callVi C (c_x11_isKnown e18) k_X11_165 (ci := 11) (q0 := 0) rfl rfl (by decide) (Nat.le_of_ble_eq_true rfl) rfl dX11_found_18 (x_if_ne C (tgt := 26) dX11_found_21 (by decide) (fun c => ?_) (fun c => ?_))))
      · have h := ite_f h c
        obtain ⟨S33, e33, h⟩ := calV_some h
        obtain ⟨r42, S42, e42, h⟩ := cal_some h
        exact x_aload_n C dX11_found_26 rfl 0 rfl (gX_X11_5 C u_2_144 dX11_found_27 (x_iload_n C dX11_found_30 rfl 1 rfl (x_iload_n C dX11_found_31 rfl 2 rfl (x_iload_n C dX11_found_32 rfl 3 rfl (x_callVv C (c_x1_listNaming e33) k_X11_246 (ci := 1) (q0 := 6) rfl rfl (by decide) (Nat.le_of_ble_eq_true rfl) rfl dX11_found_33 (x_aload_n C dX11_found_36 rfl 0 rfl (gX_X11_5 C u_2_144 dX11_found_37 (x_iload C dX11_found_40 4 rfl (x_callVi C (c_x1_entry e42) k_X11_205 (ci := 1) (q0 := 6) rfl rfl (by decide) (Nat.le_of_ble_eq_true rfl) rfl dX11_found_42 (x_iret E h retI dX11_found_45))))))))))
      · have h := ite_t h c
        exact x_iconst C dX11_found_24 kc_m1 (x_iret E h retI dX11_found_25)
set_option maxHeartbeats 4000000 in
theorem c_x11_lines {ad : AD} {ek : EK} {lh : Launch} {Dh : va_G} {r : Int32} {S' : ST}  {S : ST} {l1 : Int32} {l2 : Int32} {l3 : Int32} (h : x11_lines S l1 l2 l3 = some (r, S')) : MXi lh Dh ad ek (cX ad) yX11_lines cX11_lines 4 (some .int) 9 [.ref (ad.1 0), .int l1, .int l2, .int l3] S r S' := by
  refine mxi_of (by decide) (Nat.le_of_ble_eq_true rfl) (fun z C E => ?_)
  unfold x11_lines at h
  obtain ⟨r4, S4, e4, h⟩ := cal_some h
  refine x_aload_n C dX11_lines_0 rfl 0 rfl (x_iload_n C dX11_lines_1 rfl 1 rfl (x_iload_n C dX11_lines_2 rfl 2 rfl (x_iload_n C dX11_lines_3 rfl 3 rfl (x_callVi C (c_x11_isPrint e4) k_X11_198 (ci := 11) (q0 := 0) rfl rfl (by decide) (Nat.le_of_ble_eq_true rfl) rfl dX11_lines_4 (x_if_ne C (tgt := 12) dX11_lines_7 (by decide) (fun c => ?_) (fun c => ?_))))))
  · have h := ite_f h c
    obtain ⟨S19, e19, h⟩ := calV_some h
    exact x_aload_n C dX11_lines_12 rfl 0 rfl (gX_X11_5 C u_2_144 dX11_lines_13 (x_iload_n C dX11_lines_16 rfl 1 rfl (x_iload_n C dX11_lines_17 rfl 2 rfl (x_iload_n C dX11_lines_18 rfl 3 rfl (x_callVv C (c_x1_listPrint e19) k_X11_201 (ci := 1) (q0 := 6) rfl rfl (by decide) (Nat.le_of_ble_eq_true rfl) rfl dX11_lines_19 (x_aload_n C dX11_lines_22 rfl 0 rfl (gX_X11_5 C u_2_144 dX11_lines_23 (gX_X1_4 C u_2_74 dX11_lines_26 (x_iret E h retI dX11_lines_29)))))))))
  · have h := ite_t h c
    exact x_iconst C dX11_lines_10 kc_m1 (x_iret E h retI dX11_lines_11)
set_option maxHeartbeats 4000000 in
theorem c_x11_names {ad : AD} {lh : Launch} {Dh : va_G} {r : Int32} {S' : ST}  {S : ST} {l1 : Int32} {l2 : Int32} {l3 : Int32} (h : x11_names S l1 l2 l3 = some (r, S')) : MXi lh Dh ad (ekX ad) (cX ad) yX11_names cX11_names 4 (some .int) 9 [.ref (ad.1 0), .int l1, .int l2, .int l3] S r S' := by
  refine mxi_of (by decide) (Nat.le_of_ble_eq_true rfl) (fun z C E => ?_)
  unfold x11_names at h
  obtain ⟨r1, e1, h⟩ := cal0_some h
  refine x_iload_n C dX11_names_0 rfl 1 rfl (x_callSi C (c_x11_isWord e1) k_X11_105 (by decide) (Nat.le_of_ble_eq_true rfl) rfl dX11_names_1 (x_if_eq C (tgt := 24) dX11_names_4 (by decide) (fun c => ?_) (fun c => ?_)))
  · have h := ite_t h c
    exact x_iconst C dX11_names_24 kc_m1 (x_iret E h retI dX11_names_25)
  · have h := ite_f h c
    obtain ⟨r10, e10, h⟩ := cal0_some h
    refine x_iload_n C dX11_names_7 rfl 2 rfl (x_bipush C dX11_names_8 kb_100 (x_callSi C (c_x11_isBelow e10) k_X11_113 (by decide) (Nat.le_of_ble_eq_true rfl) rfl dX11_names_10 (x_if_eq C (tgt := 24) dX11_names_13 (by decide) (fun c => ?_) (fun c => ?_))))
    · have h := ite_t h c
      exact x_iconst C dX11_names_24 kc_m1 (x_iret E h retI dX11_names_25)
    · have h := ite_f h c
      obtain ⟨r18, S18, e18, h⟩ := cal_some h
      refine x_aload_n C dX11_names_16 rfl 0 rfl (x_iload_n C dX11_names_17 rfl 3 rfl (x_callVi C (c_x11_isKnown e18) k_X11_165 (ci := 11) (q0 := 0) rfl rfl (by decide) (Nat.le_of_ble_eq_true rfl) rfl dX11_names_18 (x_if_ne C (tgt := 26) dX11_names_21 (by decide) (fun c => ?_) (fun c => ?_))))
      · have h := ite_f h c
        obtain ⟨S33, e33, h⟩ := calV_some h
        exact x_aload_n C dX11_names_26 rfl 0 rfl (gX_X11_5 C u_2_144 dX11_names_27 (x_iload_n C dX11_names_30 rfl 1 rfl (x_iload_n C dX11_names_31 rfl 2 rfl (x_iload_n C dX11_names_32 rfl 3 rfl (x_callVv C (c_x1_listNaming e33) k_X11_246 (ci := 1) (q0 := 6) rfl rfl (by decide) (Nat.le_of_ble_eq_true rfl) rfl dX11_names_33 (x_aload_n C dX11_names_36 rfl 0 rfl (gX_X11_5 C u_2_144 dX11_names_37 (gX_X1_4 C u_2_74 dX11_names_40 (x_iret E h retI dX11_names_43)))))))))
      · have h := ite_t h c
        exact x_iconst C dX11_names_24 kc_m1 (x_iret E h retI dX11_names_25)
set_option maxHeartbeats 4000000 in
theorem w_x6_search_j155 {z : ZT} {ad : AD} {ek : EK} {lh : Launch} {Dh : va_G} {dy : Nat} {rec : ST → Int32 → Int32 → Option ST} {S' : ST} (C : CX z ad ek cX6_search RX6 lh Dh (dy + 1) 6) (E : EV z (cX ad) cX6_search S') (hrec : ∀ (S : ST) (a b : Int32) (S' : ST), rec S a b = some S' → MXv lh Dh ad ek (cX ad) yX6_search cX6_search 6 none dy [.ref (ad.1 9), .int a, .int b] S S') {Kb : ST → Int32 → Int32 → Int32 → Option ST} (hKb : ∀ (S : ST) (l1 : Int32) (l2 : Int32) (l3 : Int32) , Kb S l1 l2 l3 = some S' → XW z (cX ad) 53 [(0, .ref (ad.1 9)), (1, .int l1), (2, .int l2), (3, .int l3)] [] S) {S : ST} {l1 : Int32} {l2 : Int32} {l3 : Int32} (h : x6_search_j155 rec Kb S l1 l2 l3 = some S') : XW z (cX ad) 155 [(0, .ref (ad.1 9)), (1, .int l1), (2, .int l2), (3, .int l3)] [] S := by
  unfold x6_search_j155 at h
  exact x_iinc C dX6_search_155 3 rfl ki_1 (by decide) rfl (x_goto C (tgt := 53) dX6_search_158 (by decide) (x_perm [1, 2, 3, 0] rfl (hKb _ _ _ _ h)))
set_option maxHeartbeats 4000000 in
theorem w_x6_search_h53 {z : ZT} {ad : AD} {ek : EK} {lh : Launch} {Dh : va_G} {dy : Nat} {rec : ST → Int32 → Int32 → Option ST} {S' : ST} (C : CX z ad ek cX6_search RX6 lh Dh (dy + 1) 6) (E : EV z (cX ad) cX6_search S') (hrec : ∀ (S : ST) (a b : Int32) (S' : ST), rec S a b = some S' → MXv lh Dh ad ek (cX ad) yX6_search cX6_search 6 none dy [.ref (ad.1 9), .int a, .int b] S S') : ∀ (n : Nat) (S : ST) (l1 : Int32) (l2 : Int32) (l3 : Int32), x6_search_h53 rec n S l1 l2 l3 = some S' → XW z (cX ad) 53 [(0, .ref (ad.1 9)), (1, .int l1), (2, .int l2), (3, .int l3)] [] S := by
  intro n
  induction n with
  | zero => intro S l1 l2 l3 h; cases h
  | succ n ih =>
    intro S l1 l2 l3 h
    have hKb := ih
    refine x_iload_n C dX6_search_53 rfl 3 rfl (x_aload_n C dX6_search_54 rfl 0 rfl (gX_X6_6 C u_2_114 dX6_search_55 (x_icmp_ge C (tgt := 161) dX6_search_58 (by decide) (fun c => ?_) (fun c => ?_))))
    · have h := ite_t h c
      exact (by
        exact x_vret E h dX6_search_161)
    · have h := ite_f h c
      obtain ⟨g68, h⟩ := G_some h
      obtain ⟨g80, h⟩ := G_some h
      refine x_iload_n C dX6_search_61 rfl 2 rfl (x_iload_n C dX6_search_62 rfl 1 rfl (x_aload_n C dX6_search_63 rfl 0 rfl (gX_X6_0 C u_2_108 dX6_search_64 (x_iload_n C dX6_search_67 rfl 3 rfl (aX_42 C g68 dX6_search_68 (x_iadd C dX6_search_69 (x_mmax C u_5_17 (by omega) (Nat.le_of_ble_eq_true rfl) dX6_search_70 (x_istore C dX6_search_73 (by decide) rfl (x_aload_n C dX6_search_75 rfl 1 rfl (gX_X6_2 C u_2_110 dX6_search_76 (x_iload_n C dX6_search_79 rfl 4 rfl (aX_44 C g80 dX6_search_80 (x_iload_n C dX6_search_81 rfl 2 rfl (x_icmp_gt C (tgt := 155) dX6_search_82 (by decide) (fun c => ?_) (fun c => ?_)))))))))))))))
      · have h := ite_t h c
        exact x_perm [1, 2, 3, 4] rfl (w_x6_search_j155 C E hrec hKb h)
      · have h := ite_f h c
        obtain ⟨g90, h⟩ := G_some h
        refine x_aload_n C dX6_search_85 rfl 1 rfl (gX_X6_1 C u_2_109 dX6_search_86 (x_iload_n C dX6_search_89 rfl 4 rfl (aX_43 C g90 dX6_search_90 (x_iload_n C dX6_search_91 rfl 2 rfl (x_ishr C dX6_search_92 (x_iconst C dX6_search_93 kc_1 (x_iand C dX6_search_94 (x_if_ne C (tgt := 155) dX6_search_95 (by decide) (fun c => ?_) (fun c => ?_)))))))))
        · have h := ite_f h c
          exact x_perm [1, 2, 3, 4] rfl (w_x6_search_j155 C E hrec hKb h)
        · have h := ite_t h c
          refine x_iload C dX6_search_98 0 rfl (x_aload_n C dX6_search_100 rfl 1 rfl (gX_X6_7 C u_2_115 dX6_search_101 (x_icmp_ge C (tgt := 155) dX6_search_104 (by decide) (fun c => ?_) (fun c => ?_))))
          · have h := ite_t h c
            exact x_perm [1, 2, 3, 4] rfl (w_x6_search_j155 C E hrec hKb h)
          · have h := ite_f h c
            obtain ⟨g112, h⟩ := G_some h
            obtain ⟨g126, h⟩ := G_some h
            obtain ⟨g130, h⟩ := G_some h
            obtain ⟨g137, h⟩ := G_some h
            obtain ⟨S144, e144, h⟩ := calV_some h
            obtain ⟨g154, h⟩ := G_some h
            exact x_aload_n C dX6_search_107 rfl 1 rfl (gX_X6_2 C u_2_110 dX6_search_108 (x_iload_n C dX6_search_111 rfl 4 rfl (aX_44 C g112 dX6_search_112 (x_istore C dX6_search_113 (by decide) rfl (x_aload_n C dX6_search_115 rfl 2 rfl (gX_X6_2 C u_2_110 dX6_search_116 (x_iload_n C dX6_search_119 rfl 5 rfl (x_iload_n C dX6_search_120 rfl 3 rfl (x_aload_n C dX6_search_121 rfl 2 rfl (gX_X6_0 C u_2_108 dX6_search_122 (x_iload_n C dX6_search_125 rfl 5 rfl (aX_42 C g126 dX6_search_126 (x_iadd C dX6_search_127 (x_iconst C dX6_search_128 kc_1 (x_iadd C dX6_search_129 (sX_44 C g130 dX6_search_130 (x_aload_n C dX6_search_131 rfl 2 rfl (gX_X6_3 C u_2_111 dX6_search_132 (x_iload_n C dX6_search_135 rfl 3 rfl (x_iload_n C dX6_search_136 rfl 5 rfl (sX_45 C g137 dX6_search_137 (x_aload_n C dX6_search_138 rfl 2 rfl (x_iload_n C dX6_search_139 rfl 3 rfl (x_iconst C dX6_search_140 kc_1 (x_iadd C dX6_search_141 (x_iload C dX6_search_142 1 rfl (x_callVv C (hrec _ _ _ _ e144) k_X6_46 (ci := 6) (q0 := 9) rfl rfl (by omega) (Nat.le_of_ble_eq_true rfl) rfl dX6_search_144 (x_aload_n C dX6_search_147 rfl 2 rfl (gX_X6_2 C u_2_110 dX6_search_148 (x_iload_n C dX6_search_151 rfl 5 rfl (x_iload C dX6_search_152 0 rfl (sX_44 C g154 dX6_search_154 (x_perm [2, 3, 4, 5] rfl (w_x6_search_j155 C E hrec hKb h))))))))))))))))))))))))))))))))))
set_option maxHeartbeats 4000000 in
theorem w_x6_search_j30 {z : ZT} {ad : AD} {ek : EK} {lh : Launch} {Dh : va_G} {dy : Nat} {rec : ST → Int32 → Int32 → Option ST} {S' : ST} (C : CX z ad ek cX6_search RX6 lh Dh (dy + 1) 6) (E : EV z (cX ad) cX6_search S') (hrec : ∀ (S : ST) (a b : Int32) (S' : ST), rec S a b = some S' → MXv lh Dh ad ek (cX ad) yX6_search cX6_search 6 none dy [.ref (ad.1 9), .int a, .int b] S S') {S : ST} {l2 : Int32} (h : x6_search_j30 rec S l2 = some S') : XW z (cX ad) 30 [(0, .ref (ad.1 9)), (2, .int l2)] [] S := by
  unfold x6_search_j30 at h
  obtain ⟨g47, h⟩ := G_some h
  exact x_aload_n C dX6_search_30 rfl 0 rfl (x_iload_n C dX6_search_31 rfl 1 rfl (pX_X6_7 C u_2_115 dX6_search_32 (x_aload_n C dX6_search_35 rfl 0 rfl (gX_X6_3 C u_2_111 dX6_search_36 (x_iconst C dX6_search_39 kc_0 (x_aload_n C dX6_search_40 rfl 0 rfl (gX_X6_4 C u_2_112 dX6_search_41 (x_iconst C dX6_search_44 kc_0 (x_bipush C dX6_search_45 kb_8 (cpX_45_46 C u_5_18 g47 (by omega) (Nat.le_of_ble_eq_true rfl) dX6_search_47 (x_vret E h dX6_search_50)))))))))))
set_option maxHeartbeats 4000000 in
theorem c_x6_search {ad : AD} {ek : EK} {lh : Launch} {Dh : va_G} {S' : ST} {dy : Nat} {rec : ST → Int32 → Int32 → Option ST} (hrec : ∀ (S : ST) (a b : Int32) (S' : ST), rec S a b = some S' → MXv lh Dh ad ek (cX ad) yX6_search cX6_search 6 none dy [.ref (ad.1 9), .int a, .int b] S S') {S : ST} {l1 : Int32} {l2 : Int32} (h : x6_search rec S l1 l2 = some S') : MXv lh Dh ad ek (cX ad) yX6_search cX6_search 6 none (dy + 1) [.ref (ad.1 9), .int l1, .int l2] S S' := by
  refine mxv_of (by decide) (Nat.le_of_ble_eq_true rfl) (fun z C E => ?_)
  unfold x6_search at h
  refine x_aload_n C dX6_search_0 rfl 0 rfl (x_aload_n C dX6_search_1 rfl 0 rfl (gX_X6_8 C u_2_116 dX6_search_2 (x_iload_n C dX6_search_5 rfl 1 rfl (x_mmax C u_5_17 (by omega) (Nat.le_of_ble_eq_true rfl) dX6_search_6 (pX_X6_8 C u_2_116 dX6_search_9 (x_iload_n C dX6_search_12 rfl 1 rfl (x_if_lt C (tgt := 30) dX6_search_13 (by decide) (fun c => ?_) (fun c => ?_))))))))
  · have h := ite_t h c
    exact x_perm [0, 2] rfl (w_x6_search_j30 C E hrec h)
  · have h := ite_f h c
    refine x_iload_n C dX6_search_16 rfl 1 rfl (x_aload_n C dX6_search_17 rfl 0 rfl (gX_X6_5 C u_2_113 dX6_search_18 (x_icmp_ge C (tgt := 30) dX6_search_21 (by decide) (fun c => ?_) (fun c => ?_))))
    · have h := ite_t h c
      exact x_perm [0, 2] rfl (w_x6_search_j30 C E hrec h)
    · have h := ite_f h c
      refine x_iload_n C dX6_search_24 rfl 1 rfl (x_bipush C dX6_search_25 kb_8 (x_icmp_lt C (tgt := 51) dX6_search_27 (by decide) (fun c => ?_) (fun c => ?_)))
      · have h := ite_t h c
        exact x_iconst C dX6_search_51 kc_0 (x_istore_n C dX6_search_52 rfl (by decide) rfl (x_perm [1, 2, 3, 0] rfl (w_x6_search_h53 C E hrec FU _ _ _ _ h)))
      · have h := ite_f h c
        exact x_perm [0, 2] rfl (w_x6_search_j30 C E hrec h)
theorem c_x6_searchN {ad : AD} {ek : EK} {lh : Launch} {Dh : va_G} : ∀ (n : Nat) (S : ST) (a b : Int32) (S' : ST), x6_searchN n S a b = some S' → MXv lh Dh ad ek (cX ad) yX6_search cX6_search 6 none (n + 1) [.ref (ad.1 9), .int a, .int b] S S' := by
  intro n
  induction n with
  | zero => intro S a b S' h; cases h
  | succ n ih => intro S a b S' h; exact c_x6_search ih h
set_option maxHeartbeats 4000000 in
theorem w_x6_arrange_j74 {z : ZT} {ad : AD} {ek : EK} {lh : Launch} {Dh : va_G} {r : Int32} {S' : ST} (C : CX z ad ek cX6_arrange RX6 lh Dh 22 4) (E : EI z (cX ad) cX6_arrange (some .int) r S') {S : ST} {s0 : Int32} (h : x6_arrange_j74 S s0 = some (r, S')) : XW z (cX ad) 74 [(0, .ref (ad.1 9))] [.int s0, .ref (ad.1 9)] S := by
  unfold x6_arrange_j74 at h
  refine pX_X6_9 C u_2_117 dX6_arrange_74 (x_aload_n C dX6_arrange_77 rfl 0 rfl (gX_X6_7 C u_2_115 dX6_arrange_78 (x_bipush C dX6_arrange_81 kb_100 (x_icmp_ne C (tgt := 95) dX6_arrange_83 (by decide) (fun c => ?_) (fun c => ?_)))))
  · have h := ite_f h c
    exact x_aload_n C dX6_arrange_95 rfl 0 rfl (gX_X6_7 C u_2_115 dX6_arrange_96 (x_iret E h retI dX6_arrange_99))
  · have h := ite_t h c
    exact x_iconst C dX6_arrange_86 kc_m1 (x_aload_n C dX6_arrange_87 rfl 0 rfl (gX_X6_8 C u_2_116 dX6_arrange_88 (x_isub C dX6_arrange_91 (x_goto C (tgt := 99) dX6_arrange_92 (by decide) (x_iret E h retI dX6_arrange_99)))))
set_option maxHeartbeats 4000000 in
theorem w_x6_arrange_j50 {z : ZT} {ad : AD} {ek : EK} {lh : Launch} {Dh : va_G} {r : Int32} {S' : ST} (C : CX z ad ek cX6_arrange RX6 lh Dh 22 4) (E : EI z (cX ad) cX6_arrange (some .int) r S') {S : ST} (h : x6_arrange_j50 S = some (r, S')) : XW z (cX ad) 50 [(0, .ref (ad.1 9))] [] S := by
  unfold x6_arrange_j50 at h
  obtain ⟨S53, e53, h⟩ := calV_some h
  refine x_aload_n C dX6_arrange_50 rfl 0 rfl (x_iconst C dX6_arrange_51 kc_0 (x_iconst C dX6_arrange_52 kc_0 (x_callVv C (c_x6_searchN 20 _ _ _ _ e53) k_X6_46 (ci := 6) (q0 := 9) rfl rfl (by decide) (Nat.le_of_ble_eq_true rfl) rfl dX6_arrange_53 (x_aload_n C dX6_arrange_56 rfl 0 rfl (x_aload_n C dX6_arrange_57 rfl 0 rfl (gX_X6_7 C u_2_115 dX6_arrange_58 (x_bipush C dX6_arrange_61 kb_100 (x_icmp_ne C (tgt := 70) dX6_arrange_63 (by decide) (fun c => ?_) (fun c => ?_)))))))))
  · have h := ite_f h c
    exact x_aload_n C dX6_arrange_70 rfl 0 rfl (gX_X6_5 C u_2_113 dX6_arrange_71 (w_x6_arrange_j74 C E h))
  · have h := ite_t h c
    exact x_iconst C dX6_arrange_66 kc_0 (x_goto C (tgt := 74) dX6_arrange_67 (by decide) (w_x6_arrange_j74 C E h))
set_option maxHeartbeats 4000000 in
theorem w_x6_arrange_h32 {z : ZT} {ad : AD} {ek : EK} {lh : Launch} {Dh : va_G} {r : Int32} {S' : ST} (C : CX z ad ek cX6_arrange RX6 lh Dh 22 4) (E : EI z (cX ad) cX6_arrange (some .int) r S') {K50 : ST → Option (Int32 × ST)} (hK50 : ∀ (S : ST)  , K50 S = some (r, S') → XW z (cX ad) 50 [(0, .ref (ad.1 9))] [] S) : ∀ (n : Nat) (S : ST) (l3 : Int32), x6_arrange_h32 K50 n S l3 = some (r, S') → XW z (cX ad) 32 [(0, .ref (ad.1 9)), (3, .int l3)] [] S := by
  intro n
  induction n with
  | zero => intro S l3 h; cases h
  | succ n ih =>
    intro S l3 h
    have hKb := ih
    refine x_iload_n C dX6_arrange_32 rfl 1 rfl (x_iconst C dX6_arrange_33 kc_4 (x_icmp_ge C (tgt := 50) dX6_arrange_34 (by decide) (fun c => ?_) (fun c => ?_)))
    · have h := ite_t h c
      exact x_perm [0] rfl (hK50 _ h)
    · have h := ite_f h c
      obtain ⟨g43, h⟩ := G_some h
      exact x_aload_n C dX6_arrange_37 rfl 0 rfl (gX_X6_2 C u_2_110 dX6_arrange_38 (x_iload_n C dX6_arrange_41 rfl 1 rfl (x_iconst C dX6_arrange_42 kc_0 (sX_44 C g43 dX6_arrange_43 (x_iinc C dX6_arrange_44 1 rfl ki_1 (by decide) rfl (x_goto C (tgt := 32) dX6_arrange_47 (by decide) (x_perm [1, 0] rfl (hKb _ _ h))))))))
set_option maxHeartbeats 4000000 in
theorem c_x6_arrange {ad : AD} {ek : EK} {lh : Launch} {Dh : va_G} {r : Int32} {S' : ST}  {S : ST} {l1 : Int32} {l2 : Int32} (h : x6_arrange S l1 l2 = some (r, S')) : MXi lh Dh ad ek (cX ad) yX6_arrange cX6_arrange 4 (some .int) 22 [.ref (ad.1 9), .int l1, .int l2] S r S' := by
  refine mxi_of (by decide) (Nat.le_of_ble_eq_true rfl) (fun z C E => ?_)
  unfold x6_arrange at h
  exact x_aload_n C dX6_arrange_0 rfl 0 rfl (x_iload_n C dX6_arrange_1 rfl 1 rfl (x_bipush C dX6_arrange_2 kb_8 (x_mmin C u_5_12 (by decide) (Nat.le_of_ble_eq_true rfl) dX6_arrange_4 (pX_X6_5 C u_2_113 dX6_arrange_7 (x_aload_n C dX6_arrange_10 rfl 0 rfl (x_iload_n C dX6_arrange_11 rfl 2 rfl (x_iconst C dX6_arrange_12 kc_4 (x_mmin C u_5_12 (by decide) (Nat.le_of_ble_eq_true rfl) dX6_arrange_13 (pX_X6_6 C u_2_114 dX6_arrange_16 (x_aload_n C dX6_arrange_19 rfl 0 rfl (x_bipush C dX6_arrange_20 kb_100 (pX_X6_7 C u_2_115 dX6_arrange_22 (x_aload_n C dX6_arrange_25 rfl 0 rfl (x_iconst C dX6_arrange_26 kc_0 (pX_X6_8 C u_2_116 dX6_arrange_27 (x_iconst C dX6_arrange_30 kc_0 (x_istore_n C dX6_arrange_31 rfl (by decide) rfl (x_perm [1, 0] rfl (w_x6_arrange_h32 C E (fun _ h => w_x6_arrange_j50 C E  h) FU _ _ h)))))))))))))))))))
set_option maxHeartbeats 4000000 in
theorem c_x11_roster {ad : AD} {ek : EK} {lh : Launch} {Dh : va_G} {r : Int32} {S' : ST}  {S : ST} {l1 : Int32} {l2 : Int32} (h : x11_roster S l1 l2 = some (r, S')) : MXi lh Dh ad ek (cX ad) yX11_roster cX11_roster 3 (some .int) 23 [.ref (ad.1 0), .int l1, .int l2] S r S' := by
  refine mxi_of (by decide) (Nat.le_of_ble_eq_true rfl) (fun z C E => ?_)
  unfold x11_roster at h
  refine x_iload_n C dX11_roster_0 rfl 1 rfl (x_iconst C dX11_roster_1 kc_1 (x_icmp_lt C (tgt := 21) dX11_roster_2 (by decide) (fun c => ?_) (fun c => ?_)))
  · have h := ite_t h c
    exact x_bipush C dX11_roster_21 kb_m100 (x_iret E h retI dX11_roster_23)
  · have h := ite_f h c
    refine x_iload_n C dX11_roster_5 rfl 1 rfl (x_bipush C dX11_roster_6 kb_8 (x_icmp_gt C (tgt := 21) dX11_roster_8 (by decide) (fun c => ?_) (fun c => ?_)))
    · have h := ite_t h c
      exact x_bipush C dX11_roster_21 kb_m100 (x_iret E h retI dX11_roster_23)
    · have h := ite_f h c
      refine x_iload_n C dX11_roster_11 rfl 2 rfl (x_iconst C dX11_roster_12 kc_1 (x_icmp_lt C (tgt := 21) dX11_roster_13 (by decide) (fun c => ?_) (fun c => ?_)))
      · have h := ite_t h c
        exact x_bipush C dX11_roster_21 kb_m100 (x_iret E h retI dX11_roster_23)
      · have h := ite_f h c
        refine x_iload_n C dX11_roster_16 rfl 2 rfl (x_iconst C dX11_roster_17 kc_4 (x_icmp_le C (tgt := 24) dX11_roster_18 (by decide) (fun c => ?_) (fun c => ?_)))
        · have h := ite_t h c
          obtain ⟨r30, S30, e30, h⟩ := cal_some h
          exact x_aload_n C dX11_roster_24 rfl 0 rfl (gX_X11_8 C u_2_147 dX11_roster_25 (x_iload_n C dX11_roster_28 rfl 1 rfl (x_iload_n C dX11_roster_29 rfl 2 rfl (x_callVi C (c_x6_arrange e30) k_X11_240 (ci := 6) (q0 := 9) rfl rfl (by decide) (Nat.le_of_ble_eq_true rfl) rfl dX11_roster_30 (x_iret E h retI dX11_roster_33)))))
        · have h := ite_f h c
          exact x_bipush C dX11_roster_21 kb_m100 (x_iret E h retI dX11_roster_23)
