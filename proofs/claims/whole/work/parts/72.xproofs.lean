set_option maxHeartbeats 4000000 in
theorem w_x1_insert_j68 {z : ZT} {ad : AD} {ek : EK} {lh : Launch} {Dh : va_G} {S' : ST} (C : CX z ad ek cX1_insert RX1 lh Dh 2 3) (E : EV z (cX ad) cX1_insert S') {S : ST} {l1 : Int32} {l2 : Int32} (h : x1_insert_j68 S l1 l2 = some S') : XW z (cX ad) 68 [(0, .ref (ad.1 6)), (1, .int l1), (2, .int l2)] [] S := by
  unfold x1_insert_j68 at h
  obtain ⟨g74, h⟩ := G_some h
  exact x_aload_n C dX1_insert_68 rfl 0 rfl (gX_X1_3 C u_2_72 dX1_insert_69 (x_iload_n C dX1_insert_72 rfl 2 rfl (x_iload_n C dX1_insert_73 rfl 1 rfl (sX_37 C g74 dX1_insert_74 (x_aload_n C dX1_insert_75 rfl 0 rfl (x_dup C dX1_insert_76 rfl (gX_X1_4 C u_2_73 dX1_insert_77 (x_iconst C dX1_insert_80 kc_1 (x_iadd C dX1_insert_81 (pX_X1_4 C u_2_73 dX1_insert_82 (x_vret E h dX1_insert_85)))))))))))
set_option maxHeartbeats 4000000 in
theorem w_x1_insert_h25 {z : ZT} {ad : AD} {ek : EK} {lh : Launch} {Dh : va_G} {S' : ST} (C : CX z ad ek cX1_insert RX1 lh Dh 2 3) (E : EV z (cX ad) cX1_insert S') {K68 : ST → Int32 → Int32 → Option ST} (hK68 : ∀ (S : ST) (l1 : Int32) (l2 : Int32) , K68 S l1 l2 = some S' → XW z (cX ad) 68 [(0, .ref (ad.1 6)), (1, .int l1), (2, .int l2)] [] S) : ∀ (n : Nat) (S : ST) (l1 : Int32) (l2 : Int32), x1_insert_h25 K68 n S l1 l2 = some S' → XW z (cX ad) 25 [(0, .ref (ad.1 6)), (1, .int l1), (2, .int l2)] [] S := by
  intro n
  induction n with
  | zero => intro S l1 l2 h; cases h
  | succ n ih =>
    intro S l1 l2 h
    have hKb := ih
    refine x_iload_n C dX1_insert_25 rfl 2 rfl (x_if_le C (tgt := 68) dX1_insert_26 (by decide) (fun c => ?_) (fun c => ?_))
    · have h := ite_t h c
      exact hK68 _ _ _ h
    · have h := ite_f h c
      obtain ⟨g40, h⟩ := G_some h
      obtain ⟨r42, S42, e42, h⟩ := cal_some h
      refine x_aload_n C dX1_insert_29 rfl 0 rfl (gX_X1_0 C u_2_69 dX1_insert_30 (x_aload_n C dX1_insert_33 rfl 0 rfl (gX_X1_3 C u_2_72 dX1_insert_34 (x_iload_n C dX1_insert_37 rfl 2 rfl (x_iconst C dX1_insert_38 kc_1 (x_isub C dX1_insert_39 (aX_37 C g40 dX1_insert_40 (x_iload_n C dX1_insert_41 rfl 1 rfl (x_callVi C (c_x0_standsBehind e42) k_X1_68 (ci := 0) (q0 := 4) rfl rfl (by decide) (Nat.le_of_ble_eq_true rfl) rfl dX1_insert_42 (x_if_eq C (tgt := 68) dX1_insert_45 (by decide) (fun c => ?_) (fun c => ?_)))))))))))
      · have h := ite_t h c
        exact hK68 _ _ _ h
      · have h := ite_f h c
        obtain ⟨g60, h⟩ := G_some h
        obtain ⟨g61, h⟩ := G_some h
        exact x_aload_n C dX1_insert_48 rfl 0 rfl (gX_X1_3 C u_2_72 dX1_insert_49 (x_iload_n C dX1_insert_52 rfl 2 rfl (x_aload_n C dX1_insert_53 rfl 0 rfl (gX_X1_3 C u_2_72 dX1_insert_54 (x_iload_n C dX1_insert_57 rfl 2 rfl (x_iconst C dX1_insert_58 kc_1 (x_isub C dX1_insert_59 (aX_37 C g60 dX1_insert_60 (sX_37 C g61 dX1_insert_61 (x_iinc C dX1_insert_62 2 rfl ki_m1 (by decide) rfl (x_goto C (tgt := 25) dX1_insert_65 (by decide) (x_perm [1, 2, 0] rfl (hKb _ _ _ h)))))))))))))
set_option maxHeartbeats 4000000 in
theorem c_x1_insert {ad : AD} {ek : EK} {lh : Launch} {Dh : va_G} {S' : ST}  {S : ST} {l1 : Int32} (h : x1_insert S l1 = some S') : MXv lh Dh ad ek (cX ad) yX1_insert cX1_insert 3 none 2 [.ref (ad.1 6), .int l1] S S' := by
  refine mxv_of (by decide) (Nat.le_of_ble_eq_true rfl) (fun z C E => ?_)
  unfold x1_insert at h
  refine x_aload_n C dX1_insert_0 rfl 0 rfl (gX_X1_4 C u_2_73 dX1_insert_1 (x_if_lt C (tgt := 19) dX1_insert_4 (by decide) (fun c => ?_) (fun c => ?_)))
  · have h := ite_t h c
    exact x_vret E h dX1_insert_19
  · have h := ite_f h c
    refine x_aload_n C dX1_insert_7 rfl 0 rfl (gX_X1_4 C u_2_73 dX1_insert_8 (x_aload_n C dX1_insert_11 rfl 0 rfl (gX_X1_3 C u_2_72 dX1_insert_12 (x_alen C 37 1 rfl rfl (v := 180) rfl dX1_insert_15 (x_icmp_lt C (tgt := 20) dX1_insert_16 (by decide) (fun c => ?_) (fun c => ?_))))))
    · have h := ite_t h c
      exact x_aload_n C dX1_insert_20 rfl 0 rfl (gX_X1_4 C u_2_73 dX1_insert_21 (x_istore_n C dX1_insert_24 rfl (by decide) rfl (x_perm [1, 2, 0] rfl (w_x1_insert_h25 C E (fun _ _ _ h => w_x1_insert_j68 C E  h) FU _ _ _ h))))
    · have h := ite_f h c
      exact x_vret E h dX1_insert_19
set_option maxHeartbeats 4000000 in
theorem w_x2_accept_j48 {z : ZT} {ad : AD} {ek : EK} {lh : Launch} {Dh : va_G} {r : Int32} {S' : ST} (C : CX z ad ek cX2_accept RX2 lh Dh 2 2) (E : EI z (cX ad) cX2_accept (some .boolean) r S') {S : ST} (h : x2_accept_j48 S = some (r, S')) : XW z (cX ad) 48 [(0, .ref (ad.1 3))] [] S := by
  unfold x2_accept_j48 at h
  refine x_aload_n C dX2_accept_48 rfl 0 rfl (gX_X2_8 C u_1_159 dX2_accept_49 (x_if_ne C (tgt := 59) dX2_accept_52 (by decide) (fun c => ?_) (fun c => ?_)))
  · have h := ite_f h c
    exact x_iconst C dX2_accept_59 kc_0 (x_iret E h (retB rfl) dX2_accept_60)
  · have h := ite_t h c
    exact x_iconst C dX2_accept_55 kc_1 (x_goto C (tgt := 60) dX2_accept_56 (by decide) (x_iret E h (retB rfl) dX2_accept_60))
set_option maxHeartbeats 4000000 in
theorem w_x2_accept_j31 {z : ZT} {ad : AD} {ek : EK} {lh : Launch} {Dh : va_G} {r : Int32} {S' : ST} (C : CX z ad ek cX2_accept RX2 lh Dh 2 2) (E : EI z (cX ad) cX2_accept (some .boolean) r S') {S : ST} (h : x2_accept_j31 S = some (r, S')) : XW z (cX ad) 31 [(0, .ref (ad.1 3))] [] S := by
  unfold x2_accept_j31 at h
  refine x_aload_n C dX2_accept_31 rfl 0 rfl (gX_X2_8 C u_1_159 dX2_accept_32 (x_if_ne C (tgt := 48) dX2_accept_35 (by decide) (fun c => ?_) (fun c => ?_)))
  · have h := ite_f h c
    exact w_x2_accept_j48 C E h
  · have h := ite_t h c
    obtain ⟨S45, e45, h⟩ := calV_some h
    exact x_aload_n C dX2_accept_38 rfl 0 rfl (x_aload_n C dX2_accept_39 rfl 0 rfl (gX_X2_4 C u_1_155 dX2_accept_40 (x_iconst C dX2_accept_43 kc_1 (x_iadd C dX2_accept_44 (x_callVv C (c_x2_moveTo e45) k_X2_42 (ci := 2) (q0 := 3) rfl rfl (by decide) (Nat.le_of_ble_eq_true rfl) rfl dX2_accept_45 (w_x2_accept_j48 C E h))))))
set_option maxHeartbeats 4000000 in
theorem c_x2_accept {ad : AD} {ek : EK} {lh : Launch} {Dh : va_G} {r : Int32} {S' : ST}  {S : ST} {l1 : Int32} (h : x2_accept S l1 = some (r, S')) : MXi lh Dh ad ek (cX ad) yX2_accept cX2_accept 2 (some .boolean) 2 [.ref (ad.1 3), .int l1] S r S' := by
  refine mxi_of (by decide) (Nat.le_of_ble_eq_true rfl) (fun z C E => ?_)
  unfold x2_accept at h
  refine x_aload_n C dX2_accept_0 rfl 0 rfl (gX_X2_5 C u_1_156 dX2_accept_1 (x_iload_n C dX2_accept_4 rfl 1 rfl (x_icmp_eq C (tgt := 16) dX2_accept_5 (by decide) (fun c => ?_) (fun c => ?_))))
  · have h := ite_t h c
    refine x_aload_n C dX2_accept_16 rfl 0 rfl (gX_X2_4 C u_1_155 dX2_accept_17 (x_sipush C dX2_accept_20 ks_400 (x_icmp_lt C (tgt := 31) dX2_accept_23 (by decide) (fun c => ?_) (fun c => ?_))))
    · have h := ite_t h c
      exact x_perm [0] rfl (w_x2_accept_j31 C E h)
    · have h := ite_f h c
      obtain ⟨S28, e28, h⟩ := calV_some h
      exact x_aload_n C dX2_accept_26 rfl 0 rfl (x_iconst C dX2_accept_27 kc_2 (x_callVv C (c_x2_refuse e28) k_X2_66 (ci := 2) (q0 := 3) rfl rfl (by decide) (Nat.le_of_ble_eq_true rfl) rfl dX2_accept_28 (x_perm [0] rfl (w_x2_accept_j31 C E h))))
  · have h := ite_f h c
    obtain ⟨S10, e10, h⟩ := calV_some h
    exact x_aload_n C dX2_accept_8 rfl 0 rfl (x_iconst C dX2_accept_9 kc_1 (x_callVv C (c_x2_refuse e10) k_X2_66 (ci := 2) (q0 := 3) rfl rfl (by decide) (Nat.le_of_ble_eq_true rfl) rfl dX2_accept_10 (x_goto C (tgt := 31) dX2_accept_13 (by decide) (x_perm [0] rfl (w_x2_accept_j31 C E h)))))
set_option maxHeartbeats 4000000 in
theorem w_x2_emitWaiting_h0 {z : ZT} {ad : AD} {ek : EK} {lh : Launch} {Dh : va_G} {S' : ST} (C : CX z ad ek cX2_emitWaiting RX2 lh Dh 2 2) (E : EV z (cX ad) cX2_emitWaiting S') : ∀ (n : Nat) (S : ST) (l1 : Int32), x2_emitWaiting_h0 n S l1 = some S' → XW z (cX ad) 0 [(0, .ref (ad.1 3)), (1, .int l1)] [] S := by
  intro n
  induction n with
  | zero => intro S l1 h; cases h
  | succ n ih =>
    intro S l1 h
    have hKb := ih
    refine x_aload_n C dX2_emitWaiting_0 rfl 0 rfl (gX_X2_3 C u_1_154 dX2_emitWaiting_1 (x_if_le C (tgt := 58) dX2_emitWaiting_4 (by decide) (fun c => ?_) (fun c => ?_)))
    · have h := ite_t h c
      exact (by
        exact x_vret E h dX2_emitWaiting_58)
    · have h := ite_f h c
      obtain ⟨g17, h⟩ := G_some h
      obtain ⟨r19, e19, h⟩ := cal0_some h
      refine x_aload_n C dX2_emitWaiting_7 rfl 0 rfl (gX_X2_2 C u_1_153 dX2_emitWaiting_8 (x_aload_n C dX2_emitWaiting_11 rfl 0 rfl (gX_X2_3 C u_1_154 dX2_emitWaiting_12 (x_iconst C dX2_emitWaiting_15 kc_1 (x_isub C dX2_emitWaiting_16 (aX_25 C g17 dX2_emitWaiting_17 (x_iload_n C dX2_emitWaiting_18 rfl 1 rfl (x_callSi C (c_x2_bindsAsTight e19) k_X2_112 (by decide) (Nat.le_of_ble_eq_true rfl) rfl dX2_emitWaiting_19 (x_if_eq C (tgt := 58) dX2_emitWaiting_22 (by decide) (fun c => ?_) (fun c => ?_))))))))))
      · have h := ite_t h c
        exact (by
          exact x_vret E h dX2_emitWaiting_58)
      · have h := ite_f h c
        obtain ⟨g50, h⟩ := G_some h
        obtain ⟨S52, e52, h⟩ := calV_some h
        exact x_aload_n C dX2_emitWaiting_25 rfl 0 rfl (x_dup C dX2_emitWaiting_26 rfl (gX_X2_3 C u_1_154 dX2_emitWaiting_27 (x_iconst C dX2_emitWaiting_30 kc_1 (x_isub C dX2_emitWaiting_31 (pX_X2_3 C u_1_154 dX2_emitWaiting_32 (x_aload_n C dX2_emitWaiting_35 rfl 0 rfl (gX_X2_0 C u_1_151 dX2_emitWaiting_36 (x_sipush C dX2_emitWaiting_39 ks_20000 (x_aload_n C dX2_emitWaiting_42 rfl 0 rfl (gX_X2_2 C u_1_153 dX2_emitWaiting_43 (x_aload_n C dX2_emitWaiting_46 rfl 0 rfl (gX_X2_3 C u_1_154 dX2_emitWaiting_47 (aX_25 C g50 dX2_emitWaiting_50 (x_iadd C dX2_emitWaiting_51 (x_callVv C (c_x7_emit e52) k_X2_89 (ci := 7) (q0 := 2) rfl rfl (by decide) (Nat.le_of_ble_eq_true rfl) rfl dX2_emitWaiting_52 (x_goto C (tgt := 0) dX2_emitWaiting_55 (by decide) (hKb _ _ h)))))))))))))))))
set_option maxHeartbeats 4000000 in
theorem c_x2_emitWaiting {ad : AD} {ek : EK} {lh : Launch} {Dh : va_G} {S' : ST}  {S : ST} {l1 : Int32} (h : x2_emitWaiting S l1 = some S') : MXv lh Dh ad ek (cX ad) yX2_emitWaiting cX2_emitWaiting 2 none 2 [.ref (ad.1 3), .int l1] S S' := by
  refine mxv_of (by decide) (Nat.le_of_ble_eq_true rfl) (fun z C E => ?_)
  unfold x2_emitWaiting at h
  exact w_x2_emitWaiting_h0 C E FU _ _ h
set_option maxHeartbeats 4000000 in
theorem w_x4_compare_j110 {z : ZT} {ad : AD} {ek : EK} {lh : Launch} {Dh : va_G} {r : Int32} {S' : ST} (C : CX z ad ek cX4_compare RX4 lh Dh 2 7) (E : EI z (cX ad) cX4_compare (some .boolean) r S') {S : ST} {l5 : Int32} {s0 : Int32} (h : x4_compare_j110 S l5 s0 = some (r, S')) : XW z (cX ad) 110 [(0, .ref (ad.1 10)), (5, .int l5)] [.int s0] S := by
  unfold x4_compare_j110 at h
  obtain ⟨g119, h⟩ := G_some h
  refine x_istore C dX4_compare_110 (by decide) rfl (x_aload_n C dX4_compare_112 rfl 1 rfl (x_iconst C dX4_compare_113 kc_0 (pX_X4_1 C u_1_58 dX4_compare_114 (x_aload_n C dX4_compare_117 rfl 1 rfl (x_iconst C dX4_compare_118 kc_0 (pX_X4_2 C u_1_59 g119 dX4_compare_119 (x_iload C dX4_compare_122 2 rfl (x_iload C dX4_compare_124 0 rfl (x_icmp_eq C (tgt := 133) dX4_compare_126 (by decide) (fun c => ?_) (fun c => ?_))))))))))
  · have h := ite_t h c
    exact x_iconst C dX4_compare_133 kc_0 (x_iret E h (retB rfl) dX4_compare_134)
  · have h := ite_f h c
    exact x_iconst C dX4_compare_129 kc_1 (x_goto C (tgt := 134) dX4_compare_130 (by decide) (x_iret E h (retB rfl) dX4_compare_134))
set_option maxHeartbeats 4000000 in
theorem w_x4_compare_j96 {z : ZT} {ad : AD} {ek : EK} {lh : Launch} {Dh : va_G} {r : Int32} {S' : ST} (C : CX z ad ek cX4_compare RX4 lh Dh 2 7) (E : EI z (cX ad) cX4_compare (some .boolean) r S') {S : ST} {l1 : Int32} {s0 : Int32} (h : x4_compare_j96 S l1 s0 = some (r, S')) : XW z (cX ad) 96 [(0, .ref (ad.1 10)), (1, .int l1)] [.int s0] S := by
  unfold x4_compare_j96 at h
  refine x_istore C dX4_compare_96 (by decide) rfl (x_iload_n C dX4_compare_98 rfl 2 rfl (x_iconst C dX4_compare_99 kc_2 (x_irem C dX4_compare_100 (by decide) (x_iconst C dX4_compare_101 kc_1 (x_icmp_ne C (tgt := 109) dX4_compare_102 (by decide) (fun c => ?_) (fun c => ?_))))))
  · have h := ite_f h c
    exact x_iconst C dX4_compare_109 kc_0 (x_perm [1, 0] rfl (w_x4_compare_j110 C E h))
  · have h := ite_t h c
    exact x_iconst C dX4_compare_105 kc_1 (x_goto C (tgt := 110) dX4_compare_106 (by decide) (x_perm [1, 0] rfl (w_x4_compare_j110 C E h)))
set_option maxHeartbeats 4000000 in
theorem w_x4_compare_j95 {z : ZT} {ad : AD} {ek : EK} {lh : Launch} {Dh : va_G} {r : Int32} {S' : ST} (C : CX z ad ek cX4_compare RX4 lh Dh 2 7) (E : EI z (cX ad) cX4_compare (some .boolean) r S') {S : ST} {l1 : Int32} (h : x4_compare_j95 S l1 = some (r, S')) : XW z (cX ad) 95 [(0, .ref (ad.1 10)), (1, .int l1)] [] S := by
  unfold x4_compare_j95 at h
  exact x_iconst C dX4_compare_95 kc_0 (w_x4_compare_j96 C E h)
set_option maxHeartbeats 4000000 in
theorem w_x4_compare_j77 {z : ZT} {ad : AD} {ek : EK} {lh : Launch} {Dh : va_G} {r : Int32} {S' : ST} (C : CX z ad ek cX4_compare RX4 lh Dh 2 7) (E : EI z (cX ad) cX4_compare (some .boolean) r S') {S : ST} {l1 : Int32} {s0 : Int32} (h : x4_compare_j77 S l1 s0 = some (r, S')) : XW z (cX ad) 77 [(0, .ref (ad.1 10)), (1, .int l1)] [.int s0] S := by
  unfold x4_compare_j77 at h
  refine x_istore C dX4_compare_77 (by decide) rfl (x_iload C dX4_compare_79 0 rfl (x_if_eq C (tgt := 95) dX4_compare_81 (by decide) (fun c => ?_) (fun c => ?_)))
  · have h := ite_t h c
    exact x_perm [1, 2] rfl (w_x4_compare_j95 C E h)
  · have h := ite_f h c
    refine x_aload_n C dX4_compare_84 rfl 1 rfl (gX_X4_2 C u_1_59 dX4_compare_85 (x_if_ne C (tgt := 95) dX4_compare_88 (by decide) (fun c => ?_) (fun c => ?_)))
    · have h := ite_f h c
      exact x_perm [1, 2] rfl (w_x4_compare_j95 C E h)
    · have h := ite_t h c
      exact x_iconst C dX4_compare_91 kc_1 (x_goto C (tgt := 96) dX4_compare_92 (by decide) (x_perm [1, 2] rfl (w_x4_compare_j96 C E h)))
set_option maxHeartbeats 4000000 in
theorem w_x4_compare_j76 {z : ZT} {ad : AD} {ek : EK} {lh : Launch} {Dh : va_G} {r : Int32} {S' : ST} (C : CX z ad ek cX4_compare RX4 lh Dh 2 7) (E : EI z (cX ad) cX4_compare (some .boolean) r S') {S : ST} {l1 : Int32} (h : x4_compare_j76 S l1 = some (r, S')) : XW z (cX ad) 76 [(0, .ref (ad.1 10)), (1, .int l1)] [] S := by
  unfold x4_compare_j76 at h
  exact x_iconst C dX4_compare_76 kc_0 (w_x4_compare_j77 C E h)
set_option maxHeartbeats 4000000 in
theorem w_x4_compare_j72 {z : ZT} {ad : AD} {ek : EK} {lh : Launch} {Dh : va_G} {r : Int32} {S' : ST} (C : CX z ad ek cX4_compare RX4 lh Dh 2 7) (E : EI z (cX ad) cX4_compare (some .boolean) r S') {S : ST} {l1 : Int32} (h : x4_compare_j72 S l1 = some (r, S')) : XW z (cX ad) 72 [(0, .ref (ad.1 10)), (1, .int l1)] [] S := by
  unfold x4_compare_j72 at h
  exact x_iconst C dX4_compare_72 kc_1 (x_goto C (tgt := 77) dX4_compare_73 (by decide) (w_x4_compare_j77 C E h))
set_option maxHeartbeats 4000000 in
theorem w_x4_compare_j62 {z : ZT} {ad : AD} {ek : EK} {lh : Launch} {Dh : va_G} {r : Int32} {S' : ST} (C : CX z ad ek cX4_compare RX4 lh Dh 2 7) (E : EI z (cX ad) cX4_compare (some .boolean) r S') {S : ST} {l1 : Int32} {l2 : Int32} {l3 : Int32} (h : x4_compare_j62 S l1 l2 l3 = some (r, S')) : XW z (cX ad) 62 [(0, .ref (ad.1 10)), (1, .int l1), (2, .int l2), (3, .int l3)] [] S := by
  unfold x4_compare_j62 at h
  refine x_iload_n C dX4_compare_62 rfl 3 rfl (x_bipush C dX4_compare_63 kb_34 (x_icmp_ne C (tgt := 76) dX4_compare_65 (by decide) (fun c => ?_) (fun c => ?_)))
  · have h := ite_f h c
    exact x_perm [0, 1] rfl (w_x4_compare_j76 C E h)
  · have h := ite_t h c
    refine x_iload_n C dX4_compare_68 rfl 2 rfl (x_if_gt C (tgt := 76) dX4_compare_69 (by decide) (fun c => ?_) (fun c => ?_))
    · have h := ite_t h c
      exact x_perm [0, 1] rfl (w_x4_compare_j76 C E h)
    · have h := ite_f h c
      exact x_perm [0, 1] rfl (w_x4_compare_j72 C E h)
set_option maxHeartbeats 4000000 in
theorem w_x4_compare_j52 {z : ZT} {ad : AD} {ek : EK} {lh : Launch} {Dh : va_G} {r : Int32} {S' : ST} (C : CX z ad ek cX4_compare RX4 lh Dh 2 7) (E : EI z (cX ad) cX4_compare (some .boolean) r S') {S : ST} {l1 : Int32} {l2 : Int32} {l3 : Int32} (h : x4_compare_j52 S l1 l2 l3 = some (r, S')) : XW z (cX ad) 52 [(0, .ref (ad.1 10)), (1, .int l1), (2, .int l2), (3, .int l3)] [] S := by
  unfold x4_compare_j52 at h
  refine x_iload_n C dX4_compare_52 rfl 3 rfl (x_bipush C dX4_compare_53 kb_33 (x_icmp_ne C (tgt := 62) dX4_compare_55 (by decide) (fun c => ?_) (fun c => ?_)))
  · have h := ite_f h c
    exact w_x4_compare_j62 C E h
  · have h := ite_t h c
    refine x_iload_n C dX4_compare_58 rfl 2 rfl (x_if_lt C (tgt := 72) dX4_compare_59 (by decide) (fun c => ?_) (fun c => ?_))
    · have h := ite_t h c
      exact x_perm [0, 1] rfl (w_x4_compare_j72 C E h)
    · have h := ite_f h c
      exact w_x4_compare_j62 C E h
set_option maxHeartbeats 4000000 in
theorem w_x4_compare_j42 {z : ZT} {ad : AD} {ek : EK} {lh : Launch} {Dh : va_G} {r : Int32} {S' : ST} (C : CX z ad ek cX4_compare RX4 lh Dh 2 7) (E : EI z (cX ad) cX4_compare (some .boolean) r S') {S : ST} {l1 : Int32} {l2 : Int32} {l3 : Int32} (h : x4_compare_j42 S l1 l2 l3 = some (r, S')) : XW z (cX ad) 42 [(0, .ref (ad.1 10)), (1, .int l1), (2, .int l2), (3, .int l3)] [] S := by
  unfold x4_compare_j42 at h
  refine x_iload_n C dX4_compare_42 rfl 3 rfl (x_bipush C dX4_compare_43 kb_32 (x_icmp_ne C (tgt := 52) dX4_compare_45 (by decide) (fun c => ?_) (fun c => ?_)))
  · have h := ite_f h c
    exact w_x4_compare_j52 C E h
  · have h := ite_t h c
    refine x_iload_n C dX4_compare_48 rfl 2 rfl (x_if_ne C (tgt := 72) dX4_compare_49 (by decide) (fun c => ?_) (fun c => ?_))
    · have h := ite_f h c
      exact x_perm [0, 1] rfl (w_x4_compare_j72 C E h)
    · have h := ite_t h c
      exact w_x4_compare_j52 C E h
set_option maxHeartbeats 4000000 in
theorem w_x4_compare_j27 {z : ZT} {ad : AD} {ek : EK} {lh : Launch} {Dh : va_G} {r : Int32} {S' : ST} (C : CX z ad ek cX4_compare RX4 lh Dh 2 7) (E : EI z (cX ad) cX4_compare (some .boolean) r S') {S : ST} {l1 : Int32} {s0 : Int32} (h : x4_compare_j27 S l1 s0 = some (r, S')) : XW z (cX ad) 27 [(0, .ref (ad.1 10)), (1, .int l1)] [.int s0] S := by
  unfold x4_compare_j27 at h
  refine x_istore_n C dX4_compare_27 rfl (by decide) rfl (x_iload_n C dX4_compare_28 rfl 2 rfl (x_iconst C dX4_compare_29 kc_2 (x_idiv C dX4_compare_30 (by decide) (x_istore_n C dX4_compare_31 rfl (by decide) rfl (x_iload_n C dX4_compare_32 rfl 0 rfl (x_bipush C dX4_compare_33 kb_31 (x_icmp_ne C (tgt := 42) dX4_compare_35 (by decide) (fun c => ?_) (fun c => ?_))))))))
  · have h := ite_f h c
    exact x_perm [2, 3, 1, 0] rfl (w_x4_compare_j42 C E h)
  · have h := ite_t h c
    refine x_iload_n C dX4_compare_38 rfl 1 rfl (x_if_eq C (tgt := 72) dX4_compare_39 (by decide) (fun c => ?_) (fun c => ?_))
    · have h := ite_t h c
      exact x_perm [2, 3] rfl (w_x4_compare_j72 C E h)
    · have h := ite_f h c
      exact x_perm [2, 3, 1, 0] rfl (w_x4_compare_j42 C E h)
set_option maxHeartbeats 4000000 in
theorem c_x4_compare {ad : AD} {ek : EK} {lh : Launch} {Dh : va_G} {r : Int32} {S' : ST}  {S : ST} {l1 : Int32} (h : x4_compare S l1 = some (r, S')) : MXi lh Dh ad ek (cX ad) yX4_compare cX4_compare 7 (some .boolean) 2 [.ref (ad.1 10), .int l1] S r S' := by
  refine mxi_of (by decide) (Nat.le_of_ble_eq_true rfl) (fun z C E => ?_)
  unfold x4_compare at h
  refine x_aload_n C dX4_compare_0 rfl 0 rfl (gX_X4_1 C u_1_58 dX4_compare_1 (x_iconst C dX4_compare_4 kc_2 (x_icmp_ne C (tgt := 26) dX4_compare_5 (by decide) (fun c => ?_) (fun c => ?_))))
  · have h := ite_f h c
    exact x_iconst C dX4_compare_26 kc_0 (w_x4_compare_j27 C E h)
  · have h := ite_t h c
    obtain ⟨g13, h⟩ := G_some h
    obtain ⟨g19, h⟩ := G_some h
    obtain ⟨r20, e20, h⟩ := cal0_some h
    exact x_aload_n C dX4_compare_8 rfl 0 rfl (gX_X4_0 C u_1_57 dX4_compare_9 (x_iconst C dX4_compare_12 kc_0 (aX_47 C g13 dX4_compare_13 (x_aload_n C dX4_compare_14 rfl 0 rfl (gX_X4_0 C u_1_57 dX4_compare_15 (x_iconst C dX4_compare_18 kc_1 (aX_47 C g19 dX4_compare_19 (x_callSi C (c_j6_compare_7cf53 e20) k_X4_41 (by decide) (Nat.le_of_ble_eq_true rfl) rfl dX4_compare_20 (x_goto C (tgt := 27) dX4_compare_23 (by decide) (w_x4_compare_j27 C E h))))))))))
set_option maxHeartbeats 4000000 in
theorem c_x5_gathered {ad : AD} {lh : Launch} {Dh : va_G} {r : Int32} {S' : ST}  {S : ST} {l1 : Int32} (h : x5_gathered S l1 = some (r, S')) : MXi lh Dh ad (ekX ad) (cX ad) yX5_gathered cX5_gathered 2 (some .boolean) 2 [.ref (ad.1 7), .int l1] S r S' := by
  refine mxi_of (by decide) (Nat.le_of_ble_eq_true rfl) (fun z C E => ?_)
  unfold x5_gathered at h
  obtain ⟨r1, e1, h⟩ := cal0_some h
  refine x_iload_n C dX5_gathered_0 rfl 1 rfl (x_callSNi C (c_x11_isWord e1) rfl rfl (by decide) (Nat.le_of_ble_eq_true rfl) rfl dX5_gathered_1 (x_if_eq C (tgt := 20) dX5_gathered_4 (by decide) (fun c => ?_) (fun c => ?_)))
  · have h := ite_t h c
    exact x_iconst C dX5_gathered_20 kc_0 (x_iret E h (retB rfl) dX5_gathered_21)
  · have h := ite_f h c
    obtain ⟨g12, h⟩ := G_some h
    refine x_aload_n C dX5_gathered_7 rfl 0 rfl (gX_X5_1 C u_2_56 dX5_gathered_8 (x_iload_n C dX5_gathered_11 rfl 1 rfl (aX_38 C g12 dX5_gathered_12 (x_if_eq C (tgt := 20) dX5_gathered_13 (by decide) (fun c => ?_) (fun c => ?_)))))
    · have h := ite_t h c
      exact x_iconst C dX5_gathered_20 kc_0 (x_iret E h (retB rfl) dX5_gathered_21)
    · have h := ite_f h c
      exact x_iconst C dX5_gathered_16 kc_1 (x_goto C (tgt := 21) dX5_gathered_17 (by decide) (x_iret E h (retB rfl) dX5_gathered_21))
set_option maxHeartbeats 4000000 in
theorem c_x5_mark {ad : AD} {lh : Launch} {Dh : va_G} {S' : ST}  {S : ST} {l1 : Int32} (h : x5_mark S l1 = some S') : MXv lh Dh ad (ekX ad) (cX ad) yX5_mark cX5_mark 2 none 2 [.ref (ad.1 7), .int l1] S S' := by
  refine mxv_of (by decide) (Nat.le_of_ble_eq_true rfl) (fun z C E => ?_)
  unfold x5_mark at h
  obtain ⟨r1, e1, h⟩ := cal0_some h
  refine x_iload_n C dX5_mark_0 rfl 1 rfl (x_callSNi C (c_x11_isWord e1) rfl rfl (by decide) (Nat.le_of_ble_eq_true rfl) rfl dX5_mark_1 (x_if_eq C (tgt := 14) dX5_mark_4 (by decide) (fun c => ?_) (fun c => ?_)))
  · have h := ite_t h c
    exact x_vret E h dX5_mark_14
  · have h := ite_f h c
    obtain ⟨g13, h⟩ := G_some h
    exact x_aload_n C dX5_mark_7 rfl 0 rfl (gX_X5_1 C u_2_56 dX5_mark_8 (x_iload_n C dX5_mark_11 rfl 1 rfl (x_iconst C dX5_mark_12 kc_1 (sX_38 C g13 dX5_mark_13 (x_vret E h dX5_mark_14)))))
set_option maxHeartbeats 4000000 in
theorem w_x7_enforceText_j181 {z : ZT} {ad : AD} {ek : EK} {lh : Launch} {Dh : va_G} {S' : ST} (C : CX z ad ek cX7_enforceText RX7 lh Dh 2 8) (E : EV z (cX ad) cX7_enforceText S') {Kb : ST → Int32 → Int32 → Int32 → Int32 → Option ST} (hKb : ∀ (S : ST) (l1 : Int32) (l2 : Int32) (l4 : Int32) (l6 : Int32) , Kb S l1 l2 l4 l6 = some S' → XW z (cX ad) 66 [(0, .ref (ad.1 2)), (1, .int l1), (2, .int l2), (4, .int l4), (6, .int l6)] [] S) {S : ST} {l1 : Int32} {l2 : Int32} {l4 : Int32} {l6 : Int32} (h : x7_enforceText_j181 Kb S l1 l2 l4 l6 = some S') : XW z (cX ad) 181 [(0, .ref (ad.1 2)), (1, .int l1), (2, .int l2), (4, .int l4), (6, .int l6)] [] S := by
  unfold x7_enforceText_j181 at h
  exact x_iinc C dX7_enforceText_181 4 rfl ki_1 (by decide) rfl (x_goto C (tgt := 66) dX7_enforceText_184 (by decide) (x_perm [1, 2, 3, 4, 0] rfl (hKb _ _ _ _ _ h)))
set_option maxHeartbeats 4000000 in
theorem w_x7_enforceText_h66 {z : ZT} {ad : AD} {ek : EK} {lh : Launch} {Dh : va_G} {S' : ST} (C : CX z ad ek cX7_enforceText RX7 lh Dh 2 8) (E : EV z (cX ad) cX7_enforceText S') : ∀ (n : Nat) (S : ST) (l1 : Int32) (l2 : Int32) (l4 : Int32) (l6 : Int32), x7_enforceText_h66 n S l1 l2 l4 l6 = some S' → XW z (cX ad) 66 [(0, .ref (ad.1 2)), (1, .int l1), (2, .int l2), (4, .int l4), (6, .int l6)] [] S := by
  intro n
  induction n with
  | zero => intro S l1 l2 l4 l6 h; cases h
  | succ n ih =>
    intro S l1 l2 l4 l6 h
    have hKb := ih
    obtain ⟨g73, h⟩ := G_some h
    refine x_iload C dX7_enforceText_66 4 rfl (x_aload_n C dX7_enforceText_68 rfl 0 rfl (gX_X7_9 C u_1_81 dX7_enforceText_69 (x_iload_n C dX7_enforceText_72 rfl 1 rfl (aX_22 C g73 dX7_enforceText_73 (x_icmp_ge C (tgt := 187) dX7_enforceText_74 (by decide) (fun c => ?_) (fun c => ?_))))))
    · have h := ite_t h c
      exact (by
        exact x_vret E h dX7_enforceText_187)
    · have h := ite_f h c
      obtain ⟨g87, h⟩ := G_some h
      obtain ⟨r88, S88, e88, h⟩ := cal_some h
      obtain ⟨g99, h⟩ := G_some h
      refine x_aload_n C dX7_enforceText_77 rfl 0 rfl (x_iload_n C dX7_enforceText_78 rfl 2 rfl (x_iconst C dX7_enforceText_79 kc_1 (x_iadd C dX7_enforceText_80 (x_aload_n C dX7_enforceText_81 rfl 0 rfl (gX_X7_2 C u_1_72 dX7_enforceText_82 (x_iload C dX7_enforceText_85 4 rfl (aX_15 C g87 dX7_enforceText_87 (x_callVi C (c_x7_namedInForce e88) k_X7_79 (ci := 7) (q0 := 2) rfl rfl (by decide) (Nat.le_of_ble_eq_true rfl) rfl dX7_enforceText_88 (x_istore C dX7_enforceText_91 (by decide) rfl (x_aload_n C dX7_enforceText_93 rfl 1 rfl (gX_X7_1 C u_1_70 dX7_enforceText_94 (x_iload C dX7_enforceText_97 5 rfl (aX_14 C g99 dX7_enforceText_99 (x_iconst C dX7_enforceText_100 kc_5 (x_icmp_ne C (tgt := 116) dX7_enforceText_101 (by decide) (fun c => ?_) (fun c => ?_))))))))))))))))
      · have h := ite_f h c
        refine x_iload C dX7_enforceText_116 0 rfl (x_iconst C dX7_enforceText_118 kc_m1 (x_icmp_eq C (tgt := 137) dX7_enforceText_119 (by decide) (fun c => ?_) (fun c => ?_)))
        · have h := ite_t h c
          obtain ⟨g144, h⟩ := G_some h
          refine x_aload_n C dX7_enforceText_137 rfl 1 rfl (gX_X7_11 C u_1_83 dX7_enforceText_138 (x_iload_n C dX7_enforceText_141 rfl 3 rfl (x_iconst C dX7_enforceText_142 kc_1 (x_iadd C dX7_enforceText_143 (aX_24 C g144 dX7_enforceText_144 (x_sipush C dX7_enforceText_145 ks_144 (x_icmp_ge C (tgt := 181) dX7_enforceText_148 (by decide) (fun c => ?_) (fun c => ?_))))))))
          · have h := ite_t h c
            exact x_perm [1, 2, 3, 4, 5] rfl (w_x7_enforceText_j181 C E hKb h)
          · have h := ite_f h c
            obtain ⟨g164, h⟩ := G_some h
            obtain ⟨g168, h⟩ := G_some h
            obtain ⟨g177, h⟩ := G_some h
            obtain ⟨g180, h⟩ := G_some h
            exact x_aload_n C dX7_enforceText_151 rfl 1 rfl (gX_X7_10 C u_1_82 dX7_enforceText_152 (x_iload C dX7_enforceText_155 4 rfl (x_aload_n C dX7_enforceText_157 rfl 1 rfl (gX_X7_11 C u_1_83 dX7_enforceText_158 (x_iload_n C dX7_enforceText_161 rfl 3 rfl (x_iconst C dX7_enforceText_162 kc_1 (x_iadd C dX7_enforceText_163 (aX_24 C g164 dX7_enforceText_164 (x_iadd C dX7_enforceText_165 (x_iload C dX7_enforceText_166 5 rfl (sX_23 C g168 dX7_enforceText_168 (x_aload_n C dX7_enforceText_169 rfl 1 rfl (gX_X7_11 C u_1_83 dX7_enforceText_170 (x_iload_n C dX7_enforceText_173 rfl 3 rfl (x_iconst C dX7_enforceText_174 kc_1 (x_iadd C dX7_enforceText_175 (x_dup2 C dX7_enforceText_176 rfl rfl (aX_24 C g177 dX7_enforceText_177 (x_iconst C dX7_enforceText_178 kc_1 (x_iadd C dX7_enforceText_179 (sX_24 C g180 dX7_enforceText_180 (x_perm [1, 2, 3, 4, 5] rfl (w_x7_enforceText_j181 C E hKb h)))))))))))))))))))))))
        · have h := ite_f h c
          obtain ⟨g133, h⟩ := G_some h
          exact x_aload_n C dX7_enforceText_122 rfl 1 rfl (gX_X7_10 C u_1_82 dX7_enforceText_123 (x_iload C dX7_enforceText_126 4 rfl (x_iload C dX7_enforceText_128 0 rfl (x_iadd C dX7_enforceText_130 (x_iload C dX7_enforceText_131 5 rfl (sX_23 C g133 dX7_enforceText_133 (x_goto C (tgt := 181) dX7_enforceText_134 (by decide) (x_perm [1, 2, 3, 4, 5] rfl (w_x7_enforceText_j181 C E hKb h)))))))))
      · have h := ite_t h c
        obtain ⟨S110, e110, h⟩ := calV_some h
        exact x_aload_n C dX7_enforceText_104 rfl 1 rfl (x_iload_n C dX7_enforceText_105 rfl 3 rfl (x_iconst C dX7_enforceText_106 kc_1 (x_iadd C dX7_enforceText_107 (x_iload C dX7_enforceText_108 0 rfl (x_callVv C (c_x7_takeAway e110) k_X7_83 (ci := 7) (q0 := 2) rfl rfl (by decide) (Nat.le_of_ble_eq_true rfl) rfl dX7_enforceText_110 (x_goto C (tgt := 181) dX7_enforceText_113 (by decide) (x_perm [1, 2, 3, 4, 5] rfl (w_x7_enforceText_j181 C E hKb h))))))))
set_option maxHeartbeats 4000000 in
theorem w_x7_enforceText_j60 {z : ZT} {ad : AD} {ek : EK} {lh : Launch} {Dh : va_G} {S' : ST} (C : CX z ad ek cX7_enforceText RX7 lh Dh 2 8) (E : EV z (cX ad) cX7_enforceText S') {S : ST} {l1 : Int32} {l2 : Int32} {l4 : Int32} {s0 : Int32} (h : x7_enforceText_j60 S l1 l2 l4 s0 = some S') : XW z (cX ad) 60 [(0, .ref (ad.1 2)), (1, .int l1), (2, .int l2), (4, .int l4)] [.int s0] S := by
  unfold x7_enforceText_j60 at h
  exact x_istore C dX7_enforceText_60 (by decide) rfl (x_iload C dX7_enforceText_62 0 rfl (x_istore C dX7_enforceText_64 (by decide) rfl (x_perm [2, 3, 4, 5, 0] rfl (w_x7_enforceText_h66 C E FU _ _ _ _ _ h))))
set_option maxHeartbeats 4000000 in
theorem c_x7_enforceText {ad : AD} {ek : EK} {lh : Launch} {Dh : va_G} {S' : ST}  {S : ST} {l1 : Int32} {l2 : Int32} (h : x7_enforceText S l1 l2 = some S') : MXv lh Dh ad ek (cX ad) yX7_enforceText cX7_enforceText 8 none 2 [.ref (ad.1 2), .int l1, .int l2] S S' := by
  refine mxv_of (by decide) (Nat.le_of_ble_eq_true rfl) (fun z C E => ?_)
  unfold x7_enforceText at h
  obtain ⟨g27, h⟩ := G_some h
  obtain ⟨g42, h⟩ := G_some h
  obtain ⟨g43, h⟩ := G_some h
  refine x_iload_n C dX7_enforceText_0 rfl 2 rfl (x_sipush C dX7_enforceText_1 ks_144 (x_imul C dX7_enforceText_4 (x_istore_n C dX7_enforceText_5 rfl (by decide) rfl (x_iload_n C dX7_enforceText_6 rfl 0 rfl (x_sipush C dX7_enforceText_7 ks_144 (x_iadd C dX7_enforceText_10 (x_istore C dX7_enforceText_11 (by decide) rfl (x_aload_n C dX7_enforceText_13 rfl 2 rfl (gX_X7_10 C u_1_82 dX7_enforceText_14 (x_iload_n C dX7_enforceText_17 rfl 1 rfl (x_aload_n C dX7_enforceText_18 rfl 2 rfl (gX_X7_10 C u_1_82 dX7_enforceText_19 (x_iload C dX7_enforceText_22 0 rfl (x_sipush C dX7_enforceText_24 ks_144 (cpX_23_23 C u_3_140 g27 (by decide) (Nat.le_of_ble_eq_true rfl) dX7_enforceText_27 (x_aload_n C dX7_enforceText_30 rfl 2 rfl (gX_X7_11 C u_1_83 dX7_enforceText_31 (x_iload_n C dX7_enforceText_34 rfl 4 rfl (x_iconst C dX7_enforceText_35 kc_1 (x_iadd C dX7_enforceText_36 (x_aload_n C dX7_enforceText_37 rfl 2 rfl (gX_X7_11 C u_1_83 dX7_enforceText_38 (x_iload_n C dX7_enforceText_41 rfl 4 rfl (aX_24 C g42 dX7_enforceText_42 (sX_24 C g43 dX7_enforceText_43 (x_iload_n C dX7_enforceText_44 rfl 3 rfl (x_if_le C (tgt := 59) dX7_enforceText_45 (by decide) (fun c => ?_) (fun c => ?_))))))))))))))))))))))))))))
  · have h := ite_t h c
    exact x_iconst C dX7_enforceText_59 kc_0 (x_perm [2, 3, 4, 0] rfl (w_x7_enforceText_j60 C E h))
  · have h := ite_f h c
    obtain ⟨g55, h⟩ := G_some h
    exact x_aload_n C dX7_enforceText_48 rfl 2 rfl (gX_X7_9 C u_1_81 dX7_enforceText_49 (x_iload_n C dX7_enforceText_52 rfl 3 rfl (x_iconst C dX7_enforceText_53 kc_1 (x_isub C dX7_enforceText_54 (aX_22 C g55 dX7_enforceText_55 (x_goto C (tgt := 60) dX7_enforceText_56 (by decide) (x_perm [2, 3, 4, 0] rfl (w_x7_enforceText_j60 C E h))))))))
set_option maxHeartbeats 4000000 in
theorem c_x7_howManyInForce {ad : AD} {ek : EK} {lh : Launch} {Dh : va_G} {r : Int32} {S' : ST}  {S : ST} {l1 : Int32} (h : x7_howManyInForce S l1 = some (r, S')) : MXi lh Dh ad ek (cX ad) yX7_howManyInForce cX7_howManyInForce 2 (some .int) 2 [.ref (ad.1 2), .int l1] S r S' := by
  refine mxi_of (by decide) (Nat.le_of_ble_eq_true rfl) (fun z C E => ?_)
  unfold x7_howManyInForce at h
  obtain ⟨r6, S6, e6, h⟩ := cal_some h
  obtain ⟨g9, h⟩ := G_some h
  exact x_aload_n C dX7_howManyInForce_0 rfl 0 rfl (gX_X7_11 C u_1_83 dX7_howManyInForce_1 (x_aload_n C dX7_howManyInForce_4 rfl 0 rfl (x_iload_n C dX7_howManyInForce_5 rfl 1 rfl (x_callVi C (c_x7_levelOn e6) k_X7_86 (ci := 7) (q0 := 2) rfl rfl (by decide) (Nat.le_of_ble_eq_true rfl) rfl dX7_howManyInForce_6 (aX_24 C g9 dX7_howManyInForce_9 (x_iret E h retI dX7_howManyInForce_10))))))
set_option maxHeartbeats 4000000 in
theorem c_x7_inForceAt {ad : AD} {ek : EK} {lh : Launch} {Dh : va_G} {r : Int32} {S' : ST}  {S : ST} {l1 : Int32} {l2 : Int32} (h : x7_inForceAt S l1 l2 = some (r, S')) : MXi lh Dh ad ek (cX ad) yX7_inForceAt cX7_inForceAt 4 (some .int) 2 [.ref (ad.1 2), .int l1, .int l2] S r S' := by
  refine mxi_of (by decide) (Nat.le_of_ble_eq_true rfl) (fun z C E => ?_)
  unfold x7_inForceAt at h
  obtain ⟨r2, S2, e2, h⟩ := cal_some h
  refine x_aload_n C dX7_inForceAt_0 rfl 0 rfl (x_iload_n C dX7_inForceAt_1 rfl 1 rfl (x_callVi C (c_x7_levelOn e2) k_X7_86 (ci := 7) (q0 := 2) rfl rfl (by decide) (Nat.le_of_ble_eq_true rfl) rfl dX7_inForceAt_2 (x_istore_n C dX7_inForceAt_5 rfl (by decide) rfl (x_iload_n C dX7_inForceAt_6 rfl 3 rfl (x_if_lt C (tgt := 35) dX7_inForceAt_7 (by decide) (fun c => ?_) (fun c => ?_))))))
  · have h := ite_t h c
    exact x_iconst C dX7_inForceAt_35 kc_m1 (x_iret E h retI dX7_inForceAt_36)
  · have h := ite_f h c
    obtain ⟨g16, h⟩ := G_some h
    refine x_iload_n C dX7_inForceAt_10 rfl 3 rfl (x_aload_n C dX7_inForceAt_11 rfl 1 rfl (gX_X7_11 C u_1_83 dX7_inForceAt_12 (x_iload_n C dX7_inForceAt_15 rfl 0 rfl (aX_24 C g16 dX7_inForceAt_16 (x_icmp_ge C (tgt := 35) dX7_inForceAt_17 (by decide) (fun c => ?_) (fun c => ?_))))))
    · have h := ite_t h c
      exact x_iconst C dX7_inForceAt_35 kc_m1 (x_iret E h retI dX7_inForceAt_36)
    · have h := ite_f h c
      obtain ⟨g31, h⟩ := G_some h
      exact x_aload_n C dX7_inForceAt_20 rfl 1 rfl (gX_X7_10 C u_1_82 dX7_inForceAt_21 (x_iload_n C dX7_inForceAt_24 rfl 0 rfl (x_sipush C dX7_inForceAt_25 ks_144 (x_imul C dX7_inForceAt_28 (x_iload_n C dX7_inForceAt_29 rfl 3 rfl (x_iadd C dX7_inForceAt_30 (aX_23 C g31 dX7_inForceAt_31 (x_goto C (tgt := 36) dX7_inForceAt_32 (by decide) (x_iret E h retI dX7_inForceAt_36)))))))))
set_option maxHeartbeats 4000000 in
theorem c_x8_append {ad : AD} {ek : EK} {lh : Launch} {Dh : va_G} {r : Int32} {S' : ST}  {S : ST} {l1 : Int32} {l2 : Int32} (h : x8_append S l1 l2 = some (r, S')) : MXi lh Dh ad ek (cX ad) yX8_append cX8_append 3 (some .int) 2 [.ref (ad.1 8), .int l1, .int l2] S r S' := by
  refine mxi_of (by decide) (Nat.le_of_ble_eq_true rfl) (fun z C E => ?_)
  unfold x8_append at h
  obtain ⟨r2, S2, e2, h⟩ := cal_some h
  refine x_aload_n C dX8_append_0 rfl 0 rfl (x_iload_n C dX8_append_1 rfl 1 rfl (x_callVi C (c_x8_lengthOf e2) k_X8_21 (ci := 8) (q0 := 8) rfl rfl (by decide) (Nat.le_of_ble_eq_true rfl) rfl dX8_append_2 (x_iconst C dX8_append_5 kc_m1 (x_icmp_eq C (tgt := 20) dX8_append_6 (by decide) (fun c => ?_) (fun c => ?_)))))
  · have h := ite_t h c
    exact x_iconst C dX8_append_20 kc_m1 (x_iret E h retI dX8_append_21)
  · have h := ite_f h c
    obtain ⟨g14, h⟩ := G_some h
    refine x_aload_n C dX8_append_9 rfl 0 rfl (gX_X8_1 C u_2_93 dX8_append_10 (x_iload_n C dX8_append_13 rfl 1 rfl (aX_40 C g14 dX8_append_14 (x_bipush C dX8_append_15 kb_12 (x_icmp_lt C (tgt := 22) dX8_append_17 (by decide) (fun c => ?_) (fun c => ?_))))))
    · have h := ite_t h c
      obtain ⟨g35, h⟩ := G_some h
      obtain ⟨g38, h⟩ := G_some h
      obtain ⟨g45, h⟩ := G_some h
      obtain ⟨g48, h⟩ := G_some h
      obtain ⟨g54, h⟩ := G_some h
      exact x_aload_n C dX8_append_22 rfl 0 rfl (gX_X8_0 C u_2_92 dX8_append_23 (x_iload_n C dX8_append_26 rfl 1 rfl (x_bipush C dX8_append_27 kb_12 (x_imul C dX8_append_29 (x_aload_n C dX8_append_30 rfl 0 rfl (gX_X8_1 C u_2_93 dX8_append_31 (x_iload_n C dX8_append_34 rfl 1 rfl (aX_40 C g35 dX8_append_35 (x_iadd C dX8_append_36 (x_iload_n C dX8_append_37 rfl 2 rfl (sX_39 C g38 dX8_append_38 (x_aload_n C dX8_append_39 rfl 0 rfl (gX_X8_1 C u_2_93 dX8_append_40 (x_iload_n C dX8_append_43 rfl 1 rfl (x_dup2 C dX8_append_44 rfl rfl (aX_40 C g45 dX8_append_45 (x_iconst C dX8_append_46 kc_1 (x_iadd C dX8_append_47 (sX_40 C g48 dX8_append_48 (x_aload_n C dX8_append_49 rfl 0 rfl (gX_X8_1 C u_2_93 dX8_append_50 (x_iload_n C dX8_append_53 rfl 1 rfl (aX_40 C g54 dX8_append_54 (x_iret E h retI dX8_append_55))))))))))))))))))))))))
    · have h := ite_f h c
      exact x_iconst C dX8_append_20 kc_m1 (x_iret E h retI dX8_append_21)
set_option maxHeartbeats 4000000 in
theorem c_x8_wordAt {ad : AD} {ek : EK} {lh : Launch} {Dh : va_G} {r : Int32} {S' : ST}  {S : ST} {l1 : Int32} {l2 : Int32} (h : x8_wordAt S l1 l2 = some (r, S')) : MXi lh Dh ad ek (cX ad) yX8_wordAt cX8_wordAt 3 (some .int) 2 [.ref (ad.1 8), .int l1, .int l2] S r S' := by
  refine mxi_of (by decide) (Nat.le_of_ble_eq_true rfl) (fun z C E => ?_)
  unfold x8_wordAt at h
  refine x_iload_n C dX8_wordAt_0 rfl 2 rfl (x_if_lt C (tgt := 27) dX8_wordAt_1 (by decide) (fun c => ?_) (fun c => ?_))
  · have h := ite_t h c
    exact x_iconst C dX8_wordAt_27 kc_m1 (x_iret E h retI dX8_wordAt_28)
  · have h := ite_f h c
    obtain ⟨r7, S7, e7, h⟩ := cal_some h
    refine x_iload_n C dX8_wordAt_4 rfl 2 rfl (x_aload_n C dX8_wordAt_5 rfl 0 rfl (x_iload_n C dX8_wordAt_6 rfl 1 rfl (x_callVi C (c_x8_lengthOf e7) k_X8_21 (ci := 8) (q0 := 8) rfl rfl (by decide) (Nat.le_of_ble_eq_true rfl) rfl dX8_wordAt_7 (x_icmp_ge C (tgt := 27) dX8_wordAt_10 (by decide) (fun c => ?_) (fun c => ?_)))))
    · have h := ite_t h c
      exact x_iconst C dX8_wordAt_27 kc_m1 (x_iret E h retI dX8_wordAt_28)
    · have h := ite_f h c
      obtain ⟨g23, h⟩ := G_some h
      exact x_aload_n C dX8_wordAt_13 rfl 0 rfl (gX_X8_0 C u_2_92 dX8_wordAt_14 (x_iload_n C dX8_wordAt_17 rfl 1 rfl (x_bipush C dX8_wordAt_18 kb_12 (x_imul C dX8_wordAt_20 (x_iload_n C dX8_wordAt_21 rfl 2 rfl (x_iadd C dX8_wordAt_22 (aX_39 C g23 dX8_wordAt_23 (x_goto C (tgt := 28) dX8_wordAt_24 (by decide) (x_iret E h retI dX8_wordAt_28)))))))))
set_option maxHeartbeats 4000000 in
theorem w_x9_behindBlanks_h2 {z : ZT} {ad : AD} {ek : EK} {lh : Launch} {Dh : va_G} {r : Int32} {S' : ST} (C : CX z ad ek cX9_behindBlanks RX9 lh Dh 2 3) (E : EI z (cX ad) cX9_behindBlanks (some .int) r S') : ∀ (n : Nat) (S : ST) (l2 : Int32), x9_behindBlanks_h2 n S l2 = some (r, S') → XW z (cX ad) 2 [(0, .ref (ad.1 1)), (2, .int l2)] [] S := by
  intro n
  induction n with
  | zero => intro S l2 h; cases h
  | succ n ih =>
    intro S l2 h
    have hKb := ih
    refine x_iload_n C dX9_behindBlanks_2 rfl 1 rfl (x_aload_n C dX9_behindBlanks_3 rfl 0 rfl (gX_X9_1 C u_1_36 dX9_behindBlanks_4 (x_icmp_ge C (tgt := 27) dX9_behindBlanks_7 (by decide) (fun c => ?_) (fun c => ?_))))
    · have h := ite_t h c
      exact (by
        exact x_iload_n C dX9_behindBlanks_27 rfl 1 rfl (x_iret E h retI dX9_behindBlanks_28))
    · have h := ite_f h c
      obtain ⟨r12, S12, e12, h⟩ := cal_some h
      obtain ⟨r15, e15, h⟩ := cal0_some h
      refine x_aload_n C dX9_behindBlanks_10 rfl 0 rfl (x_iload_n C dX9_behindBlanks_11 rfl 1 rfl (x_callVi C (c_x9_byteAt e12) k_X9_19 (ci := 9) (q0 := 1) rfl rfl (by decide) (Nat.le_of_ble_eq_true rfl) rfl dX9_behindBlanks_12 (x_callSi C (c_x9_isBlank e15) k_X9_23 (by decide) (Nat.le_of_ble_eq_true rfl) rfl dX9_behindBlanks_15 (x_if_eq C (tgt := 27) dX9_behindBlanks_18 (by decide) (fun c => ?_) (fun c => ?_)))))
      · have h := ite_t h c
        exact (by
          exact x_iload_n C dX9_behindBlanks_27 rfl 1 rfl (x_iret E h retI dX9_behindBlanks_28))
      · have h := ite_f h c
        exact x_iinc C dX9_behindBlanks_21 1 rfl ki_1 (by decide) rfl (x_goto C (tgt := 2) dX9_behindBlanks_24 (by decide) (x_perm [1, 0] rfl (hKb _ _ h)))
set_option maxHeartbeats 4000000 in
theorem c_x9_behindBlanks {ad : AD} {ek : EK} {lh : Launch} {Dh : va_G} {r : Int32} {S' : ST}  {S : ST} {l1 : Int32} (h : x9_behindBlanks S l1 = some (r, S')) : MXi lh Dh ad ek (cX ad) yX9_behindBlanks cX9_behindBlanks 3 (some .int) 2 [.ref (ad.1 1), .int l1] S r S' := by
  refine mxi_of (by decide) (Nat.le_of_ble_eq_true rfl) (fun z C E => ?_)
  unfold x9_behindBlanks at h
  exact x_iload_n C dX9_behindBlanks_0 rfl 1 rfl (x_istore_n C dX9_behindBlanks_1 rfl (by decide) rfl (x_perm [1, 0] rfl (w_x9_behindBlanks_h2 C E FU _ _ h)))
set_option maxHeartbeats 4000000 in
theorem c_x11_doubles {ad : AD} {ek : EK} {lh : Launch} {Dh : va_G} {r : Int32} {S' : ST}  {S : ST} {l1 : Int32} {l2 : Int32} (h : x11_doubles S l1 l2 = some (r, S')) : MXi lh Dh ad ek (cX ad) yX11_doubles cX11_doubles 3 (some .int) 3 [.ref (ad.1 0), .int l1, .int l2] S r S' := by
  refine mxi_of (by decide) (Nat.le_of_ble_eq_true rfl) (fun z C E => ?_)
  unfold x11_doubles at h
  obtain ⟨r2, e2, h⟩ := cal0_some h
  refine x_iload_n C dX11_doubles_0 rfl 1 rfl (x_iconst C dX11_doubles_1 kc_4 (x_callSi C (c_x11_isBelow e2) k_X11_113 (by decide) (Nat.le_of_ble_eq_true rfl) rfl dX11_doubles_2 (x_if_eq C (tgt := 16) dX11_doubles_5 (by decide) (fun c => ?_) (fun c => ?_))))
  · have h := ite_t h c
    exact x_iconst C dX11_doubles_16 kc_m1 (x_iret E h retI dX11_doubles_17)
  · have h := ite_f h c
    obtain ⟨r10, S10, e10, h⟩ := cal_some h
    refine x_aload_n C dX11_doubles_8 rfl 0 rfl (x_iload_n C dX11_doubles_9 rfl 2 rfl (x_callVi C (c_x11_isKnown e10) k_X11_165 (ci := 11) (q0 := 0) rfl rfl (by decide) (Nat.le_of_ble_eq_true rfl) rfl dX11_doubles_10 (x_if_ne C (tgt := 18) dX11_doubles_13 (by decide) (fun c => ?_) (fun c => ?_))))
    · have h := ite_f h c
      obtain ⟨r25, S25, e25, h⟩ := cal_some h
      obtain ⟨r35, S35, e35, h⟩ := cal_some h
      exact x_aload_n C dX11_doubles_18 rfl 0 rfl (gX_X11_3 C u_2_142 dX11_doubles_19 (x_iload_n C dX11_doubles_22 rfl 1 rfl (x_iconst C dX11_doubles_23 kc_0 (x_iload_n C dX11_doubles_24 rfl 2 rfl (x_callVi C (c_x0_voters e25) k_X11_226 (ci := 0) (q0 := 4) rfl rfl (by decide) (Nat.le_of_ble_eq_true rfl) rfl dX11_doubles_25 (x_aload_n C dX11_doubles_28 rfl 0 rfl (gX_X11_3 C u_2_142 dX11_doubles_29 (x_iload_n C dX11_doubles_32 rfl 1 rfl (x_iconst C dX11_doubles_33 kc_1 (x_iload_n C dX11_doubles_34 rfl 2 rfl (x_callVi C (c_x0_voters e35) k_X11_226 (ci := 0) (q0 := 4) rfl rfl (by decide) (Nat.le_of_ble_eq_true rfl) rfl dX11_doubles_35 (x_iand C dX11_doubles_38 (x_iret E h retI dX11_doubles_39)))))))))))))
    · have h := ite_t h c
      exact x_iconst C dX11_doubles_16 kc_m1 (x_iret E h retI dX11_doubles_17)
set_option maxHeartbeats 4000000 in
theorem w_x11_line_j53 {z : ZT} {ad : AD} {ek : EK} {lh : Launch} {Dh : va_G} {r : Int32} {S' : ST} (C : CX z ad ek cX11_line RX11 lh Dh 3 8) (E : EI z (cX ad) cX11_line (some .int) r S') {S : ST} {l1 : Int32} {l2 : Int32} {l3 : Int32} {l4 : Int32} {l5 : Int32} (h : x11_line_j53 S l1 l2 l3 l4 l5 = some (r, S')) : XW z (cX ad) 53 [(0, .ref (ad.1 0)), (1, .int l1), (2, .int l2), (3, .int l3), (4, .int l4), (5, .int l5)] [] S := by
  unfold x11_line_j53 at h
  obtain ⟨r61, S61, e61, h⟩ := cal_some h
  exact x_aload_n C dX11_line_53 rfl 0 rfl (x_iload_n C dX11_line_54 rfl 1 rfl (x_iload_n C dX11_line_55 rfl 2 rfl (x_iload_n C dX11_line_56 rfl 3 rfl (x_iload C dX11_line_57 4 rfl (x_iload C dX11_line_59 5 rfl (x_callVi C (c_x11_tellLine e61) k_X11_109 (ci := 11) (q0 := 0) rfl rfl (by decide) (Nat.le_of_ble_eq_true rfl) rfl dX11_line_61 (x_iret E h retI dX11_line_64)))))))
set_option maxHeartbeats 4000000 in
theorem w_x11_line_j39 {z : ZT} {ad : AD} {ek : EK} {lh : Launch} {Dh : va_G} {r : Int32} {S' : ST} (C : CX z ad ek cX11_line RX11 lh Dh 3 8) (E : EI z (cX ad) cX11_line (some .int) r S') {S : ST} {l1 : Int32} {l2 : Int32} {l3 : Int32} {l4 : Int32} {l5 : Int32} {l6 : Int32} {s0 : Int32} (h : x11_line_j39 S l1 l2 l3 l4 l5 l6 s0 = some (r, S')) : XW z (cX ad) 39 [(0, .ref (ad.1 0)), (1, .int l1), (2, .int l2), (3, .int l3), (4, .int l4), (5, .int l5), (6, .int l6)] [.int s0] S := by
  unfold x11_line_j39 at h
  refine x_istore C dX11_line_39 (by decide) rfl (x_iload C dX11_line_41 7 rfl (x_if_ne C (tgt := 53) dX11_line_43 (by decide) (fun c => ?_) (fun c => ?_)))
  · have h := ite_f h c
    exact x_perm [1, 2, 3, 4, 5, 6] rfl (w_x11_line_j53 C E h)
  · have h := ite_t h c
    refine x_iload C dX11_line_46 0 rfl (x_if_ne C (tgt := 53) dX11_line_48 (by decide) (fun c => ?_) (fun c => ?_))
    · have h := ite_f h c
      exact x_perm [1, 2, 3, 4, 5, 6] rfl (w_x11_line_j53 C E h)
    · have h := ite_t h c
      exact x_iconst C dX11_line_51 kc_m1 (x_iret E h retI dX11_line_52)
set_option maxHeartbeats 4000000 in
theorem w_x11_line_j38 {z : ZT} {ad : AD} {ek : EK} {lh : Launch} {Dh : va_G} {r : Int32} {S' : ST} (C : CX z ad ek cX11_line RX11 lh Dh 3 8) (E : EI z (cX ad) cX11_line (some .int) r S') {S : ST} {l1 : Int32} {l2 : Int32} {l3 : Int32} {l4 : Int32} {l5 : Int32} {l6 : Int32} (h : x11_line_j38 S l1 l2 l3 l4 l5 l6 = some (r, S')) : XW z (cX ad) 38 [(0, .ref (ad.1 0)), (1, .int l1), (2, .int l2), (3, .int l3), (4, .int l4), (5, .int l5), (6, .int l6)] [] S := by
  unfold x11_line_j38 at h
  exact x_iconst C dX11_line_38 kc_0 (w_x11_line_j39 C E h)
set_option maxHeartbeats 4000000 in
theorem w_x11_line_j22 {z : ZT} {ad : AD} {ek : EK} {lh : Launch} {Dh : va_G} {r : Int32} {S' : ST} (C : CX z ad ek cX11_line RX11 lh Dh 3 8) (E : EI z (cX ad) cX11_line (some .int) r S') {S : ST} {l1 : Int32} {l2 : Int32} {l3 : Int32} {l4 : Int32} {l5 : Int32} {s0 : Int32} (h : x11_line_j22 S l1 l2 l3 l4 l5 s0 = some (r, S')) : XW z (cX ad) 22 [(0, .ref (ad.1 0)), (1, .int l1), (2, .int l2), (3, .int l3), (4, .int l4), (5, .int l5)] [.int s0] S := by
  unfold x11_line_j22 at h
  refine x_istore C dX11_line_22 (by decide) rfl (x_iload_n C dX11_line_24 rfl 4 rfl (x_iconst C dX11_line_25 kc_3 (x_icmp_ne C (tgt := 38) dX11_line_26 (by decide) (fun c => ?_) (fun c => ?_))))
  · have h := ite_f h c
    exact x_perm [1, 2, 3, 4, 5, 6, 0] rfl (w_x11_line_j38 C E h)
  · have h := ite_t h c
    refine x_iload C dX11_line_29 6 rfl (x_if_ne C (tgt := 38) dX11_line_31 (by decide) (fun c => ?_) (fun c => ?_))
    · have h := ite_f h c
      exact x_perm [1, 2, 3, 4, 5, 6, 0] rfl (w_x11_line_j38 C E h)
    · have h := ite_t h c
      exact x_iconst C dX11_line_34 kc_1 (x_goto C (tgt := 39) dX11_line_35 (by decide) (x_perm [1, 2, 3, 4, 5, 6, 0] rfl (w_x11_line_j39 C E h)))
set_option maxHeartbeats 4000000 in
theorem w_x11_line_j21 {z : ZT} {ad : AD} {ek : EK} {lh : Launch} {Dh : va_G} {r : Int32} {S' : ST} (C : CX z ad ek cX11_line RX11 lh Dh 3 8) (E : EI z (cX ad) cX11_line (some .int) r S') {S : ST} {l1 : Int32} {l2 : Int32} {l3 : Int32} {l4 : Int32} {l5 : Int32} (h : x11_line_j21 S l1 l2 l3 l4 l5 = some (r, S')) : XW z (cX ad) 21 [(0, .ref (ad.1 0)), (1, .int l1), (2, .int l2), (3, .int l3), (4, .int l4), (5, .int l5)] [] S := by
  unfold x11_line_j21 at h
  exact x_iconst C dX11_line_21 kc_0 (w_x11_line_j22 C E h)
set_option maxHeartbeats 4000000 in
theorem w_x11_line_j9 {z : ZT} {ad : AD} {ek : EK} {lh : Launch} {Dh : va_G} {r : Int32} {S' : ST} (C : CX z ad ek cX11_line RX11 lh Dh 3 8) (E : EI z (cX ad) cX11_line (some .int) r S') {S : ST} {l1 : Int32} {l2 : Int32} {l3 : Int32} {l4 : Int32} {l5 : Int32} (h : x11_line_j9 S l1 l2 l3 l4 l5 = some (r, S')) : XW z (cX ad) 9 [(0, .ref (ad.1 0)), (1, .int l1), (2, .int l2), (3, .int l3), (4, .int l4), (5, .int l5)] [] S := by
  unfold x11_line_j9 at h
  obtain ⟨r11, e11, h⟩ := cal0_some h
  refine x_iload C dX11_line_9 5 rfl (x_callSi C (c_x11_isWord e11) k_X11_105 (by decide) (Nat.le_of_ble_eq_true rfl) rfl dX11_line_11 (x_if_eq C (tgt := 21) dX11_line_14 (by decide) (fun c => ?_) (fun c => ?_)))
  · have h := ite_t h c
    exact w_x11_line_j21 C E h
  · have h := ite_f h c
    exact x_iconst C dX11_line_17 kc_1 (x_goto C (tgt := 22) dX11_line_18 (by decide) (w_x11_line_j22 C E h))
set_option maxHeartbeats 4000000 in
theorem c_x11_line {ad : AD} {ek : EK} {lh : Launch} {Dh : va_G} {r : Int32} {S' : ST}  {S : ST} {l1 : Int32} {l2 : Int32} {l3 : Int32} {l4 : Int32} {l5 : Int32} (h : x11_line S l1 l2 l3 l4 l5 = some (r, S')) : MXi lh Dh ad ek (cX ad) yX11_line cX11_line 8 (some .int) 3 [.ref (ad.1 0), .int l1, .int l2, .int l3, .int l4, .int l5] S r S' := by
  refine mxi_of (by decide) (Nat.le_of_ble_eq_true rfl) (fun z C E => ?_)
  unfold x11_line at h
  refine x_iload_n C dX11_line_0 rfl 3 rfl (x_if_eq C (tgt := 9) dX11_line_1 (by decide) (fun c => ?_) (fun c => ?_))
  · have h := ite_t h c
    exact w_x11_line_j9 C E h
  · have h := ite_f h c
    refine x_iload_n C dX11_line_4 rfl 3 rfl (x_iconst C dX11_line_5 kc_2 (x_icmp_ne C (tgt := 21) dX11_line_6 (by decide) (fun c => ?_) (fun c => ?_)))
    · have h := ite_f h c
      exact w_x11_line_j21 C E h
    · have h := ite_t h c
      exact w_x11_line_j9 C E h
set_option maxHeartbeats 4000000 in
theorem c_x11_moved {ad : AD} {ek : EK} {lh : Launch} {Dh : va_G} {r : Int32} {S' : ST}  {S : ST} {l1 : Int32} {l2 : Int32} (h : x11_moved S l1 l2 = some (r, S')) : MXi lh Dh ad ek (cX ad) yX11_moved cX11_moved 3 (some .int) 3 [.ref (ad.1 0), .int l1, .int l2] S r S' := by
  refine mxi_of (by decide) (Nat.le_of_ble_eq_true rfl) (fun z C E => ?_)
  unfold x11_moved at h
  obtain ⟨r2, e2, h⟩ := cal0_some h
  refine x_iload_n C dX11_moved_0 rfl 1 rfl (x_iconst C dX11_moved_1 kc_4 (x_callSi C (c_x11_isBelow e2) k_X11_113 (by decide) (Nat.le_of_ble_eq_true rfl) rfl dX11_moved_2 (x_if_eq C (tgt := 16) dX11_moved_5 (by decide) (fun c => ?_) (fun c => ?_))))
  · have h := ite_t h c
    exact x_iconst C dX11_moved_16 kc_m1 (x_iret E h retI dX11_moved_17)
  · have h := ite_f h c
    obtain ⟨r10, S10, e10, h⟩ := cal_some h
    refine x_aload_n C dX11_moved_8 rfl 0 rfl (x_iload_n C dX11_moved_9 rfl 2 rfl (x_callVi C (c_x11_isKnown e10) k_X11_165 (ci := 11) (q0 := 0) rfl rfl (by decide) (Nat.le_of_ble_eq_true rfl) rfl dX11_moved_10 (x_if_ne C (tgt := 18) dX11_moved_13 (by decide) (fun c => ?_) (fun c => ?_))))
    · have h := ite_f h c
      obtain ⟨r24, S24, e24, h⟩ := cal_some h
      exact x_aload_n C dX11_moved_18 rfl 0 rfl (gX_X11_3 C u_2_142 dX11_moved_19 (x_iload_n C dX11_moved_22 rfl 1 rfl (x_iload_n C dX11_moved_23 rfl 2 rfl (x_callVi C (c_x0_lastTurnOfDivision e24) k_X11_234 (ci := 0) (q0 := 4) rfl rfl (by decide) (Nat.le_of_ble_eq_true rfl) rfl dX11_moved_24 (x_iret E h retI dX11_moved_27)))))
    · have h := ite_t h c
      exact x_iconst C dX11_moved_16 kc_m1 (x_iret E h retI dX11_moved_17)
set_option maxHeartbeats 4000000 in
theorem c_x11_reads {ad : AD} {ek : EK} {lh : Launch} {Dh : va_G} {r : Int32} {S' : ST}  {S : ST} {l1 : Int32} {l2 : Int32} {l3 : Int32} {l4 : Int32} {l5 : Int32} {l6 : Int32} (h : x11_reads S l1 l2 l3 l4 l5 l6 = some (r, S')) : MXi lh Dh ad ek (cX ad) yX11_reads cX11_reads 8 (some .int) 3 [.ref (ad.1 0), .int l1, .int l2, .int l3, .int l4, .int l5, .int l6] S r S' := by
  refine mxi_of (by decide) (Nat.le_of_ble_eq_true rfl) (fun z C E => ?_)
  unfold x11_reads at h
  obtain ⟨r2, e2, h⟩ := cal0_some h
  refine x_iload C dX11_reads_0 4 rfl (x_callSi C (c_x11_isWord e2) k_X11_105 (by decide) (Nat.le_of_ble_eq_true rfl) rfl dX11_reads_2 (x_if_eq C (tgt := 27) dX11_reads_5 (by decide) (fun c => ?_) (fun c => ?_)))
  · have h := ite_t h c
    exact x_iconst C dX11_reads_27 kc_m1 (x_iret E h retI dX11_reads_28)
  · have h := ite_f h c
    obtain ⟨r11, e11, h⟩ := cal0_some h
    refine x_iload C dX11_reads_8 5 rfl (x_iconst C dX11_reads_10 kc_4 (x_callSi C (c_x11_isBelow e11) k_X11_113 (by decide) (Nat.le_of_ble_eq_true rfl) rfl dX11_reads_11 (x_if_eq C (tgt := 27) dX11_reads_14 (by decide) (fun c => ?_) (fun c => ?_))))
    · have h := ite_t h c
      exact x_iconst C dX11_reads_27 kc_m1 (x_iret E h retI dX11_reads_28)
    · have h := ite_f h c
      obtain ⟨r21, e21, h⟩ := cal0_some h
      refine x_iload C dX11_reads_17 6 rfl (x_bipush C dX11_reads_19 kb_10 (x_callSi C (c_x11_isBelow e21) k_X11_113 (by decide) (Nat.le_of_ble_eq_true rfl) rfl dX11_reads_21 (x_if_ne C (tgt := 29) dX11_reads_24 (by decide) (fun c => ?_) (fun c => ?_))))
      · have h := ite_f h c
        obtain ⟨r36, S36, e36, h⟩ := cal_some h
        refine x_aload_n C dX11_reads_29 rfl 0 rfl (x_iload_n C dX11_reads_30 rfl 1 rfl (x_iload_n C dX11_reads_31 rfl 2 rfl (x_iconst C dX11_reads_32 kc_1 (x_iload_n C dX11_reads_33 rfl 3 rfl (x_iload C dX11_reads_34 4 rfl (x_callVi C (c_x11_tellLine e36) k_X11_109 (ci := 11) (q0 := 0) rfl rfl (by decide) (Nat.le_of_ble_eq_true rfl) rfl dX11_reads_36 (x_istore C dX11_reads_39 (by decide) rfl (x_iload C dX11_reads_41 0 rfl (x_iconst C dX11_reads_43 kc_m1 (x_icmp_eq C (tgt := 60) dX11_reads_44 (by decide) (fun c => ?_) (fun c => ?_)))))))))))
        · have h := ite_t h c
          exact x_iload C dX11_reads_60 0 rfl (x_iret E h retI dX11_reads_62)
        · have h := ite_f h c
          obtain ⟨S57, e57, h⟩ := calV_some h
          exact x_aload_n C dX11_reads_47 rfl 1 rfl (gX_X11_3 C u_2_142 dX11_reads_48 (x_iload C dX11_reads_51 0 rfl (x_iload C dX11_reads_53 6 rfl (x_iload C dX11_reads_55 7 rfl (x_callVv C (c_x0_setPaper e57) k_X11_117 (ci := 0) (q0 := 4) rfl rfl (by decide) (Nat.le_of_ble_eq_true rfl) rfl dX11_reads_57 (x_iload C dX11_reads_60 0 rfl (x_iret E h retI dX11_reads_62)))))))
      · have h := ite_t h c
        exact x_iconst C dX11_reads_27 kc_m1 (x_iret E h retI dX11_reads_28)
set_option maxHeartbeats 4000000 in
theorem c_x11_rule {ad : AD} {ek : EK} {lh : Launch} {Dh : va_G} {r : Int32} {S' : ST}  {S : ST} {l1 : Int32} {l2 : Int32} {l3 : Int32} (h : x11_rule S l1 l2 l3 = some (r, S')) : MXi lh Dh ad ek (cX ad) yX11_rule cX11_rule 5 (some .int) 3 [.ref (ad.1 0), .int l1, .int l2, .int l3] S r S' := by
  refine mxi_of (by decide) (Nat.le_of_ble_eq_true rfl) (fun z C E => ?_)
  unfold x11_rule at h
  obtain ⟨r3, e3, h⟩ := cal0_some h
  refine x_iload_n C dX11_rule_0 rfl 1 rfl (x_bipush C dX11_rule_1 kb_100 (x_callSi C (c_x11_isBelow e3) k_X11_113 (by decide) (Nat.le_of_ble_eq_true rfl) rfl dX11_rule_3 (x_if_ne C (tgt := 11) dX11_rule_6 (by decide) (fun c => ?_) (fun c => ?_))))
  · have h := ite_f h c
    obtain ⟨r17, S17, e17, h⟩ := cal_some h
    refine x_aload_n C dX11_rule_11 rfl 0 rfl (gX_X11_1 C u_2_140 dX11_rule_12 (x_iload_n C dX11_rule_15 rfl 1 rfl (x_iload_n C dX11_rule_16 rfl 2 rfl (x_callVi C (c_x7_inForceAt e17) k_X11_152 (ci := 7) (q0 := 2) rfl rfl (by decide) (Nat.le_of_ble_eq_true rfl) rfl dX11_rule_17 (x_istore C dX11_rule_20 (by decide) rfl (x_iload C dX11_rule_22 0 rfl (x_iconst C dX11_rule_24 kc_m1 (x_icmp_ne C (tgt := 30) dX11_rule_25 (by decide) (fun c => ?_) (fun c => ?_)))))))))
    · have h := ite_f h c
      refine x_iload_n C dX11_rule_30 rfl 4 rfl (?_)
      refine x_case 0 (fun c0 => ?_) (fun c0 => ?_)
      · have h := ite_t h c0
        refine x_table C (tgt := 56) dX11_rule_31 (by decide) (by rw [c0]; decide) ?_
        obtain ⟨g65, h⟩ := G_some h
        exact x_aload_n C dX11_rule_56 rfl 1 rfl (gX_X11_1 C u_2_140 dX11_rule_57 (gX_X7_1 C u_1_71 dX11_rule_60 (x_iload C dX11_rule_63 0 rfl (aX_14 C g65 dX11_rule_65 (x_iret E h retI dX11_rule_66)))))
      · have h := ite_f h c0
        refine x_case 1 (fun c1 => ?_) (fun c1 => ?_)
        · have h := ite_t h c1
          refine x_table C (tgt := 67) dX11_rule_31 (by decide) (by rw [c1]; decide) ?_
          obtain ⟨g76, h⟩ := G_some h
          exact x_aload_n C dX11_rule_67 rfl 1 rfl (gX_X11_1 C u_2_140 dX11_rule_68 (gX_X7_3 C u_1_74 dX11_rule_71 (x_iload C dX11_rule_74 0 rfl (aX_16 C g76 dX11_rule_76 (x_iret E h retI dX11_rule_77)))))
        · have h := ite_f h c1
          refine x_case 2 (fun c2 => ?_) (fun c2 => ?_)
          · have h := ite_t h c2
            refine x_table C (tgt := 78) dX11_rule_31 (by decide) (by rw [c2]; decide) ?_
            obtain ⟨g87, h⟩ := G_some h
            exact x_aload_n C dX11_rule_78 rfl 1 rfl (gX_X11_1 C u_2_140 dX11_rule_79 (gX_X7_4 C u_1_76 dX11_rule_82 (x_iload C dX11_rule_85 0 rfl (aX_17 C g87 dX11_rule_87 (x_iret E h retI dX11_rule_88)))))
          · have h := ite_f h c2
            refine x_table C (tgt := 89) dX11_rule_31 (by decide) (by rw [tsw_d [0, 1, 2] (by intro k hk; simp only [List.mem_cons, List.not_mem_nil, or_false] at hk; rcases hk with rfl | rfl | rfl <;> assumption) (by decide)]; decide) ?_
            exact x_iconst C dX11_rule_89 kc_m1 (x_iret E h retI dX11_rule_90)
    · have h := ite_t h c
      exact x_iconst C dX11_rule_28 kc_m1 (x_iret E h retI dX11_rule_29)
  · have h := ite_t h c
    exact x_iconst C dX11_rule_9 kc_m1 (x_iret E h retI dX11_rule_10)
set_option maxHeartbeats 4000000 in
theorem c_x11_rules {ad : AD} {ek : EK} {lh : Launch} {Dh : va_G} {r : Int32} {S' : ST}  {S : ST} {l1 : Int32} (h : x11_rules S l1 = some (r, S')) : MXi lh Dh ad ek (cX ad) yX11_rules cX11_rules 2 (some .int) 3 [.ref (ad.1 0), .int l1] S r S' := by
  refine mxi_of (by decide) (Nat.le_of_ble_eq_true rfl) (fun z C E => ?_)
  unfold x11_rules at h
  obtain ⟨r3, e3, h⟩ := cal0_some h
  refine x_iload_n C dX11_rules_0 rfl 1 rfl (x_bipush C dX11_rules_1 kb_100 (x_callSi C (c_x11_isBelow e3) k_X11_113 (by decide) (Nat.le_of_ble_eq_true rfl) rfl dX11_rules_3 (x_if_eq C (tgt := 20) dX11_rules_6 (by decide) (fun c => ?_) (fun c => ?_))))
  · have h := ite_t h c
    exact x_iconst C dX11_rules_20 kc_m1 (x_iret E h retI dX11_rules_21)
  · have h := ite_f h c
    obtain ⟨r14, S14, e14, h⟩ := cal_some h
    exact x_aload_n C dX11_rules_9 rfl 0 rfl (gX_X11_1 C u_2_140 dX11_rules_10 (x_iload_n C dX11_rules_13 rfl 1 rfl (x_callVi C (c_x7_howManyInForce e14) k_X11_148 (ci := 7) (q0 := 2) rfl rfl (by decide) (Nat.le_of_ble_eq_true rfl) rfl dX11_rules_14 (x_goto C (tgt := 21) dX11_rules_17 (by decide) (x_iret E h retI dX11_rules_21)))))
set_option maxHeartbeats 4000000 in
theorem c_x11_sum {ad : AD} {ek : EK} {lh : Launch} {Dh : va_G} {r : Int32} {S' : ST}  {S : ST} {l1 : Int32} {l2 : Int32} {l3 : Int32} (h : x11_sum S l1 l2 l3 = some (r, S')) : MXi lh Dh ad ek (cX ad) yX11_sum cX11_sum 6 (some .int) 3 [.ref (ad.1 0), .int l1, .int l2, .int l3] S r S' := by
  refine mxi_of (by decide) (Nat.le_of_ble_eq_true rfl) (fun z C E => ?_)
  unfold x11_sum at h
  obtain ⟨r2, e2, h⟩ := cal0_some h
  refine x_iload_n C dX11_sum_0 rfl 1 rfl (x_iconst C dX11_sum_1 kc_4 (x_callSi C (c_x11_isBelow e2) k_X11_113 (by decide) (Nat.le_of_ble_eq_true rfl) rfl dX11_sum_2 (x_if_eq C (tgt := 24) dX11_sum_5 (by decide) (fun c => ?_) (fun c => ?_))))
  · have h := ite_t h c
    exact x_iconst C dX11_sum_24 kc_m1 (x_iret E h retI dX11_sum_25)
  · have h := ite_f h c
    obtain ⟨r10, e10, h⟩ := cal0_some h
    refine x_iload_n C dX11_sum_8 rfl 2 rfl (x_iconst C dX11_sum_9 kc_2 (x_callSi C (c_x11_isBelow e10) k_X11_113 (by decide) (Nat.le_of_ble_eq_true rfl) rfl dX11_sum_10 (x_if_eq C (tgt := 24) dX11_sum_13 (by decide) (fun c => ?_) (fun c => ?_))))
    · have h := ite_t h c
      exact x_iconst C dX11_sum_24 kc_m1 (x_iret E h retI dX11_sum_25)
    · have h := ite_f h c
      obtain ⟨r18, S18, e18, h⟩ := cal_some h
      refine x_aload_n C dX11_sum_16 rfl 0 rfl (x_iload_n C dX11_sum_17 rfl 3 rfl (x_callVi C (c_x11_isKnown e18) k_X11_165 (ci := 11) (q0 := 0) rfl rfl (by decide) (Nat.le_of_ble_eq_true rfl) rfl dX11_sum_18 (x_if_ne C (tgt := 26) dX11_sum_21 (by decide) (fun c => ?_) (fun c => ?_))))
      · have h := ite_f h c
        obtain ⟨r33, S33, e33, h⟩ := cal_some h
        obtain ⟨r47, S47, e47, h⟩ := cal_some h
        obtain ⟨r59, e59, h⟩ := cal0_some h
        exact x_aload_n C dX11_sum_26 rfl 0 rfl (gX_X11_3 C u_2_142 dX11_sum_27 (x_iload_n C dX11_sum_30 rfl 1 rfl (x_iload_n C dX11_sum_31 rfl 2 rfl (x_iload_n C dX11_sum_32 rfl 3 rfl (x_callVi C (c_x0_voters e33) k_X11_226 (ci := 0) (q0 := 4) rfl rfl (by decide) (Nat.le_of_ble_eq_true rfl) rfl dX11_sum_33 (x_istore C dX11_sum_36 (by decide) rfl (x_aload_n C dX11_sum_38 rfl 1 rfl (gX_X11_3 C u_2_142 dX11_sum_39 (x_iload_n C dX11_sum_42 rfl 2 rfl (x_iconst C dX11_sum_43 kc_1 (x_iload_n C dX11_sum_44 rfl 3 rfl (x_isub C dX11_sum_45 (x_iload_n C dX11_sum_46 rfl 4 rfl (x_callVi C (c_x0_voters e47) k_X11_226 (ci := 0) (q0 := 4) rfl rfl (by decide) (Nat.le_of_ble_eq_true rfl) rfl dX11_sum_47 (x_istore C dX11_sum_50 (by decide) rfl (x_iload C dX11_sum_52 1 rfl (x_iload C dX11_sum_54 0 rfl (x_iconst C dX11_sum_56 kc_m1 (x_ixor C dX11_sum_57 (x_iand C dX11_sum_58 (x_callSi C (c_j6_bitCount_0f7a4 e59) k_X11_229 (by decide) (Nat.le_of_ble_eq_true rfl) rfl dX11_sum_59 (x_iret E h retI dX11_sum_62))))))))))))))))))))))
      · have h := ite_t h c
        exact x_iconst C dX11_sum_24 kc_m1 (x_iret E h retI dX11_sum_25)
set_option maxHeartbeats 4000000 in
theorem w_x11_take_j10 {z : ZT} {ad : AD} {ek : EK} {lh : Launch} {Dh : va_G} {r : Int32} {S' : ST} (C : CX z ad ek cX11_take RX11 lh Dh 3 4) (E : EI z (cX ad) cX11_take (some .int) r S') {S : ST} {l1 : Int32} {l2 : Int32} {s0 : Int32} (h : x11_take_j10 S l1 l2 s0 = some (r, S')) : XW z (cX ad) 10 [(0, .ref (ad.1 0)), (1, .int l1), (2, .int l2)] [.int s0] S := by
  unfold x11_take_j10 at h
  obtain ⟨r13, e13, h⟩ := cal0_some h
  refine x_istore_n C dX11_take_10 rfl (by decide) rfl (x_iload_n C dX11_take_11 rfl 2 rfl (x_iconst C dX11_take_12 kc_3 (x_callSi C (c_x11_isBelow e13) k_X11_113 (by decide) (Nat.le_of_ble_eq_true rfl) rfl dX11_take_13 (x_if_eq C (tgt := 31) dX11_take_16 (by decide) (fun c => ?_) (fun c => ?_)))))
  · have h := ite_t h c
    exact x_iconst C dX11_take_31 kc_m1 (x_iret E h retI dX11_take_32)
  · have h := ite_f h c
    refine x_iload_n C dX11_take_19 rfl 3 rfl (x_iload_n C dX11_take_20 rfl 0 rfl (x_icmp_lt C (tgt := 31) dX11_take_21 (by decide) (fun c => ?_) (fun c => ?_)))
    · have h := ite_t h c
      exact x_iconst C dX11_take_31 kc_m1 (x_iret E h retI dX11_take_32)
    · have h := ite_f h c
      refine x_iload_n C dX11_take_24 rfl 3 rfl (x_sipush C dX11_take_25 ks_1000 (x_icmp_lt C (tgt := 33) dX11_take_28 (by decide) (fun c => ?_) (fun c => ?_)))
      · have h := ite_t h c
        obtain ⟨r39, S39, e39, h⟩ := cal_some h
        exact x_aload_n C dX11_take_33 rfl 1 rfl (gX_X11_7 C u_2_146 dX11_take_34 (x_iload_n C dX11_take_37 rfl 2 rfl (x_iload_n C dX11_take_38 rfl 3 rfl (x_callVi C (c_x8_append e39) k_X11_211 (ci := 8) (q0 := 8) rfl rfl (by decide) (Nat.le_of_ble_eq_true rfl) rfl dX11_take_39 (x_iret E h retI dX11_take_42)))))
      · have h := ite_f h c
        exact x_iconst C dX11_take_31 kc_m1 (x_iret E h retI dX11_take_32)
set_option maxHeartbeats 4000000 in
theorem c_x11_take {ad : AD} {ek : EK} {lh : Launch} {Dh : va_G} {r : Int32} {S' : ST}  {S : ST} {l1 : Int32} {l2 : Int32} (h : x11_take S l1 l2 = some (r, S')) : MXi lh Dh ad ek (cX ad) yX11_take cX11_take 4 (some .int) 3 [.ref (ad.1 0), .int l1, .int l2] S r S' := by
  refine mxi_of (by decide) (Nat.le_of_ble_eq_true rfl) (fun z C E => ?_)
  unfold x11_take at h
  refine x_iload_n C dX11_take_0 rfl 1 rfl (x_iconst C dX11_take_1 kc_2 (x_icmp_ne C (tgt := 9) dX11_take_2 (by decide) (fun c => ?_) (fun c => ?_)))
  · have h := ite_f h c
    exact x_iconst C dX11_take_9 kc_1 (w_x11_take_j10 C E h)
  · have h := ite_t h c
    exact x_iconst C dX11_take_5 kc_0 (x_goto C (tgt := 10) dX11_take_6 (by decide) (w_x11_take_j10 C E h))
set_option maxHeartbeats 4000000 in
theorem c_x11_who {ad : AD} {ek : EK} {lh : Launch} {Dh : va_G} {r : Int32} {S' : ST}  {S : ST} {l1 : Int32} {l2 : Int32} {l3 : Int32} (h : x11_who S l1 l2 l3 = some (r, S')) : MXi lh Dh ad ek (cX ad) yX11_who cX11_who 4 (some .int) 3 [.ref (ad.1 0), .int l1, .int l2, .int l3] S r S' := by
  refine mxi_of (by decide) (Nat.le_of_ble_eq_true rfl) (fun z C E => ?_)
  unfold x11_who at h
  obtain ⟨r3, e3, h⟩ := cal0_some h
  refine x_iload_n C dX11_who_0 rfl 1 rfl (x_bipush C dX11_who_1 kb_10 (x_callSi C (c_x11_isBelow e3) k_X11_113 (by decide) (Nat.le_of_ble_eq_true rfl) rfl dX11_who_3 (x_if_eq C (tgt := 26) dX11_who_6 (by decide) (fun c => ?_) (fun c => ?_))))
  · have h := ite_t h c
    exact x_iconst C dX11_who_26 kc_m1 (x_iret E h retI dX11_who_27)
  · have h := ite_f h c
    obtain ⟨r12, e12, h⟩ := cal0_some h
    refine x_iload_n C dX11_who_9 rfl 2 rfl (x_bipush C dX11_who_10 kb_100 (x_callSi C (c_x11_isBelow e12) k_X11_113 (by decide) (Nat.le_of_ble_eq_true rfl) rfl dX11_who_12 (x_if_eq C (tgt := 26) dX11_who_15 (by decide) (fun c => ?_) (fun c => ?_))))
    · have h := ite_t h c
      exact x_iconst C dX11_who_26 kc_m1 (x_iret E h retI dX11_who_27)
    · have h := ite_f h c
      obtain ⟨r20, S20, e20, h⟩ := cal_some h
      refine x_aload_n C dX11_who_18 rfl 0 rfl (x_iload_n C dX11_who_19 rfl 3 rfl (x_callVi C (c_x11_isKnown e20) k_X11_165 (ci := 11) (q0 := 0) rfl rfl (by decide) (Nat.le_of_ble_eq_true rfl) rfl dX11_who_20 (x_if_ne C (tgt := 28) dX11_who_23 (by decide) (fun c => ?_) (fun c => ?_))))
      · have h := ite_f h c
        obtain ⟨r35, S35, e35, h⟩ := cal_some h
        exact x_aload_n C dX11_who_28 rfl 0 rfl (gX_X11_3 C u_2_142 dX11_who_29 (x_iload_n C dX11_who_32 rfl 1 rfl (x_iload_n C dX11_who_33 rfl 2 rfl (x_iload_n C dX11_who_34 rfl 3 rfl (x_callVi C (c_x0_sitter e35) k_X11_168 (ci := 0) (q0 := 4) rfl rfl (by decide) (Nat.le_of_ble_eq_true rfl) rfl dX11_who_35 (x_iret E h retI dX11_who_38))))))
      · have h := ite_t h c
        exact x_iconst C dX11_who_26 kc_m1 (x_iret E h retI dX11_who_27)
set_option maxHeartbeats 4000000 in
theorem w_x2_parseClosings_h2 {z : ZT} {ad : AD} {ek : EK} {lh : Launch} {Dh : va_G} {r : Int32} {S' : ST} (C : CX z ad ek cX2_parseClosings RX2 lh Dh 3 3) (E : EI z (cX ad) cX2_parseClosings (some .int) r S') : ∀ (n : Nat) (S : ST) (l2 : Int32), x2_parseClosings_h2 n S l2 = some (r, S') → XW z (cX ad) 2 [(0, .ref (ad.1 3)), (2, .int l2)] [] S := by
  intro n
  induction n with
  | zero => intro S l2 h; cases h
  | succ n ih =>
    intro S l2 h
    have hKb := ih
    refine x_iload_n C dX2_parseClosings_2 rfl 1 rfl (x_if_le C (tgt := 46) dX2_parseClosings_3 (by decide) (fun c => ?_) (fun c => ?_))
    · have h := ite_t h c
      exact (by
        exact x_iload_n C dX2_parseClosings_46 rfl 1 rfl (x_iret E h retI dX2_parseClosings_47))
    · have h := ite_f h c
      refine x_aload_n C dX2_parseClosings_6 rfl 0 rfl (gX_X2_5 C u_1_156 dX2_parseClosings_7 (x_bipush C dX2_parseClosings_10 kb_36 (x_icmp_ne C (tgt := 46) dX2_parseClosings_12 (by decide) (fun c => ?_) (fun c => ?_))))
      · have h := ite_f h c
        exact (by
          exact x_iload_n C dX2_parseClosings_46 rfl 1 rfl (x_iret E h retI dX2_parseClosings_47))
      · have h := ite_t h c
        obtain ⟨r18, S18, e18, h⟩ := cal_some h
        refine x_aload_n C dX2_parseClosings_15 rfl 0 rfl (x_bipush C dX2_parseClosings_16 kb_36 (x_callVi C (c_x2_accept e18) k_X2_49 (ci := 2) (q0 := 3) rfl rfl (by decide) (Nat.le_of_ble_eq_true rfl) rfl dX2_parseClosings_18 (x_if_eq C (tgt := 46) dX2_parseClosings_21 (by decide) (fun c => ?_) (fun c => ?_))))
        · have h := ite_t h c
          exact (by
            exact x_iload_n C dX2_parseClosings_46 rfl 1 rfl (x_iret E h retI dX2_parseClosings_47))
        · have h := ite_f h c
          obtain ⟨S27, e27, h⟩ := calV_some h
          exact x_aload_n C dX2_parseClosings_24 rfl 0 rfl (x_bipush C dX2_parseClosings_25 kb_27 (x_callVv C (c_x2_emitWaiting e27) k_X2_106 (ci := 2) (q0 := 3) rfl rfl (by decide) (Nat.le_of_ble_eq_true rfl) rfl dX2_parseClosings_27 (x_aload_n C dX2_parseClosings_30 rfl 0 rfl (x_dup C dX2_parseClosings_31 rfl (gX_X2_3 C u_1_154 dX2_parseClosings_32 (x_iconst C dX2_parseClosings_35 kc_1 (x_isub C dX2_parseClosings_36 (pX_X2_3 C u_1_154 dX2_parseClosings_37 (x_iinc C dX2_parseClosings_40 1 rfl ki_m1 (by decide) rfl (x_goto C (tgt := 2) dX2_parseClosings_43 (by decide) (x_perm [1, 0] rfl (hKb _ _ h))))))))))))
set_option maxHeartbeats 4000000 in
theorem c_x2_parseClosings {ad : AD} {ek : EK} {lh : Launch} {Dh : va_G} {r : Int32} {S' : ST}  {S : ST} {l1 : Int32} (h : x2_parseClosings S l1 = some (r, S')) : MXi lh Dh ad ek (cX ad) yX2_parseClosings cX2_parseClosings 3 (some .int) 3 [.ref (ad.1 3), .int l1] S r S' := by
  refine mxi_of (by decide) (Nat.le_of_ble_eq_true rfl) (fun z C E => ?_)
  unfold x2_parseClosings at h
  exact x_iload_n C dX2_parseClosings_0 rfl 1 rfl (x_istore_n C dX2_parseClosings_1 rfl (by decide) rfl (x_perm [1, 0] rfl (w_x2_parseClosings_h2 C E FU _ _ h)))
set_option maxHeartbeats 4000000 in
theorem w_x2_parseNots_h2 {z : ZT} {ad : AD} {ek : EK} {lh : Launch} {Dh : va_G} {r : Int32} {S' : ST} (C : CX z ad ek cX2_parseNots RX2 lh Dh 3 2) (E : EI z (cX ad) cX2_parseNots (some .int) r S') : ∀ (n : Nat) (S : ST) (l1 : Int32), x2_parseNots_h2 n S l1 = some (r, S') → XW z (cX ad) 2 [(0, .ref (ad.1 3)), (1, .int l1)] [] S := by
  intro n
  induction n with
  | zero => intro S l1 h; cases h
  | succ n ih =>
    intro S l1 h
    have hKb := ih
    refine x_iload_n C dX2_parseNots_2 rfl 1 rfl (x_sipush C dX2_parseNots_3 ks_400 (x_icmp_gt C (tgt := 31) dX2_parseNots_6 (by decide) (fun c => ?_) (fun c => ?_)))
    · have h := ite_t h c
      exact (by
        exact x_iload_n C dX2_parseNots_31 rfl 1 rfl (x_iret E h retI dX2_parseNots_32))
    · have h := ite_f h c
      refine x_aload_n C dX2_parseNots_9 rfl 0 rfl (gX_X2_5 C u_1_156 dX2_parseNots_10 (x_iconst C dX2_parseNots_13 kc_5 (x_icmp_ne C (tgt := 31) dX2_parseNots_14 (by decide) (fun c => ?_) (fun c => ?_))))
      · have h := ite_f h c
        exact (by
          exact x_iload_n C dX2_parseNots_31 rfl 1 rfl (x_iret E h retI dX2_parseNots_32))
      · have h := ite_t h c
        obtain ⟨r19, S19, e19, h⟩ := cal_some h
        refine x_aload_n C dX2_parseNots_17 rfl 0 rfl (x_iconst C dX2_parseNots_18 kc_5 (x_callVi C (c_x2_accept e19) k_X2_49 (ci := 2) (q0 := 3) rfl rfl (by decide) (Nat.le_of_ble_eq_true rfl) rfl dX2_parseNots_19 (x_if_eq C (tgt := 31) dX2_parseNots_22 (by decide) (fun c => ?_) (fun c => ?_))))
        · have h := ite_t h c
          exact (by
            exact x_iload_n C dX2_parseNots_31 rfl 1 rfl (x_iret E h retI dX2_parseNots_32))
        · have h := ite_f h c
          exact x_iinc C dX2_parseNots_25 1 rfl ki_1 (by decide) rfl (x_goto C (tgt := 2) dX2_parseNots_28 (by decide) (x_perm [1, 0] rfl (hKb _ _ h)))
set_option maxHeartbeats 4000000 in
theorem c_x2_parseNots {ad : AD} {ek : EK} {lh : Launch} {Dh : va_G} {r : Int32} {S' : ST}  {S : ST} (h : x2_parseNots S = some (r, S')) : MXi lh Dh ad ek (cX ad) yX2_parseNots cX2_parseNots 2 (some .int) 3 [.ref (ad.1 3)] S r S' := by
  refine mxi_of (by decide) (Nat.le_of_ble_eq_true rfl) (fun z C E => ?_)
  unfold x2_parseNots at h
  exact x_iconst C dX2_parseNots_0 kc_0 (x_istore_n C dX2_parseNots_1 rfl (by decide) rfl (x_perm [1, 0] rfl (w_x2_parseNots_h2 C E FU _ _ h)))
set_option maxHeartbeats 4000000 in
theorem w_x2_parseOpenings_j38 {z : ZT} {ad : AD} {ek : EK} {lh : Launch} {Dh : va_G} {r : Int32} {S' : ST} (C : CX z ad ek cX2_parseOpenings RX2 lh Dh 3 3) (E : EI z (cX ad) cX2_parseOpenings (some .int) r S') {S : ST} {l2 : Int32} (h : x2_parseOpenings_j38 S l2 = some (r, S')) : XW z (cX ad) 38 [(0, .ref (ad.1 3)), (2, .int l2)] [] S := by
  unfold x2_parseOpenings_j38 at h
  refine x_aload_n C dX2_parseOpenings_38 rfl 0 rfl (gX_X2_5 C u_1_156 dX2_parseOpenings_39 (x_bipush C dX2_parseOpenings_42 kb_35 (x_icmp_ne C (tgt := 52) dX2_parseOpenings_44 (by decide) (fun c => ?_) (fun c => ?_))))
  · have h := ite_f h c
    exact x_iload_n C dX2_parseOpenings_52 rfl 1 rfl (x_iret E h retI dX2_parseOpenings_53)
  · have h := ite_t h c
    obtain ⟨S49, e49, h⟩ := calV_some h
    exact x_aload_n C dX2_parseOpenings_47 rfl 0 rfl (x_iconst C dX2_parseOpenings_48 kc_2 (x_callVv C (c_x2_refuse e49) k_X2_66 (ci := 2) (q0 := 3) rfl rfl (by decide) (Nat.le_of_ble_eq_true rfl) rfl dX2_parseOpenings_49 (x_iload_n C dX2_parseOpenings_52 rfl 1 rfl (x_iret E h retI dX2_parseOpenings_53))))
set_option maxHeartbeats 4000000 in
theorem w_x2_parseOpenings_h2 {z : ZT} {ad : AD} {ek : EK} {lh : Launch} {Dh : va_G} {r : Int32} {S' : ST} (C : CX z ad ek cX2_parseOpenings RX2 lh Dh 3 3) (E : EI z (cX ad) cX2_parseOpenings (some .int) r S') {K38 : ST → Int32 → Option (Int32 × ST)} (hK38 : ∀ (S : ST) (l2 : Int32) , K38 S l2 = some (r, S') → XW z (cX ad) 38 [(0, .ref (ad.1 3)), (2, .int l2)] [] S) : ∀ (n : Nat) (S : ST) (l2 : Int32), x2_parseOpenings_h2 K38 n S l2 = some (r, S') → XW z (cX ad) 2 [(0, .ref (ad.1 3)), (2, .int l2)] [] S := by
  intro n
  induction n with
  | zero => intro S l2 h; cases h
  | succ n ih =>
    intro S l2 h
    have hKb := ih
    refine x_iload_n C dX2_parseOpenings_2 rfl 1 rfl (x_bipush C dX2_parseOpenings_3 kb_6 (x_icmp_ge C (tgt := 38) dX2_parseOpenings_5 (by decide) (fun c => ?_) (fun c => ?_)))
    · have h := ite_t h c
      exact hK38 _ _ h
    · have h := ite_f h c
      refine x_aload_n C dX2_parseOpenings_8 rfl 0 rfl (gX_X2_5 C u_1_156 dX2_parseOpenings_9 (x_bipush C dX2_parseOpenings_12 kb_35 (x_icmp_ne C (tgt := 38) dX2_parseOpenings_14 (by decide) (fun c => ?_) (fun c => ?_))))
      · have h := ite_f h c
        exact hK38 _ _ h
      · have h := ite_t h c
        obtain ⟨r20, S20, e20, h⟩ := cal_some h
        refine x_aload_n C dX2_parseOpenings_17 rfl 0 rfl (x_bipush C dX2_parseOpenings_18 kb_35 (x_callVi C (c_x2_accept e20) k_X2_49 (ci := 2) (q0 := 3) rfl rfl (by decide) (Nat.le_of_ble_eq_true rfl) rfl dX2_parseOpenings_20 (x_if_eq C (tgt := 38) dX2_parseOpenings_23 (by decide) (fun c => ?_) (fun c => ?_))))
        · have h := ite_t h c
          exact hK38 _ _ h
        · have h := ite_f h c
          obtain ⟨S29, e29, h⟩ := calV_some h
          exact x_aload_n C dX2_parseOpenings_26 rfl 0 rfl (x_bipush C dX2_parseOpenings_27 kb_35 (x_callVv C (c_x2_hold e29) k_X2_109 (ci := 2) (q0 := 3) rfl rfl (by decide) (Nat.le_of_ble_eq_true rfl) rfl dX2_parseOpenings_29 (x_iinc C dX2_parseOpenings_32 1 rfl ki_1 (by decide) rfl (x_goto C (tgt := 2) dX2_parseOpenings_35 (by decide) (x_perm [1, 0] rfl (hKb _ _ h))))))
set_option maxHeartbeats 4000000 in
theorem c_x2_parseOpenings {ad : AD} {ek : EK} {lh : Launch} {Dh : va_G} {r : Int32} {S' : ST}  {S : ST} {l1 : Int32} (h : x2_parseOpenings S l1 = some (r, S')) : MXi lh Dh ad ek (cX ad) yX2_parseOpenings cX2_parseOpenings 3 (some .int) 3 [.ref (ad.1 3), .int l1] S r S' := by
  refine mxi_of (by decide) (Nat.le_of_ble_eq_true rfl) (fun z C E => ?_)
  unfold x2_parseOpenings at h
  exact x_iload_n C dX2_parseOpenings_0 rfl 1 rfl (x_istore_n C dX2_parseOpenings_1 rfl (by decide) rfl (x_perm [1, 0] rfl (w_x2_parseOpenings_h2 C E (fun _ _ h => w_x2_parseOpenings_j38 C E  h) FU _ _ h)))
set_option maxHeartbeats 4000000 in
theorem w_x2_parseOperand_j62 {z : ZT} {ad : AD} {ek : EK} {lh : Launch} {Dh : va_G} {S' : ST} (C : CX z ad ek cX2_parseOperand RX2 lh Dh 3 3) (E : EV z (cX ad) cX2_parseOperand S') {S : ST} {l2 : Int32} {s0 : Int32} (h : x2_parseOperand_j62 S l2 s0 = some S') : XW z (cX ad) 62 [(0, .ref (ad.1 3)), (2, .int l2)] [.int s0, .ref (ad.1 3)] S := by
  unfold x2_parseOperand_j62 at h
  obtain ⟨r62, S62, e62, h⟩ := cal_some h
  refine x_callVi C (c_x2_accept e62) k_X2_49 (ci := 2) (q0 := 3) rfl rfl (by decide) (Nat.le_of_ble_eq_true rfl) rfl dX2_parseOperand_62 (x_if_eq C (tgt := 76) dX2_parseOperand_65 (by decide) (fun c => ?_) (fun c => ?_))
  · have h := ite_t h c
    exact x_vret E h dX2_parseOperand_76
  · have h := ite_f h c
    obtain ⟨S73, e73, h⟩ := calV_some h
    exact x_aload_n C dX2_parseOperand_68 rfl 0 rfl (gX_X2_0 C u_1_151 dX2_parseOperand_69 (x_iload_n C dX2_parseOperand_72 rfl 1 rfl (x_callVv C (c_x7_emit e73) k_X2_89 (ci := 7) (q0 := 2) rfl rfl (by decide) (Nat.le_of_ble_eq_true rfl) rfl dX2_parseOperand_73 (x_vret E h dX2_parseOperand_76))))
set_option maxHeartbeats 4000000 in
theorem w_x2_parseOperand_j47 {z : ZT} {ad : AD} {ek : EK} {lh : Launch} {Dh : va_G} {S' : ST} (C : CX z ad ek cX2_parseOperand RX2 lh Dh 3 3) (E : EV z (cX ad) cX2_parseOperand S') {S : ST} {l1 : Int32} {s0 : Int32} (h : x2_parseOperand_j47 S l1 s0 = some S') : XW z (cX ad) 47 [(0, .ref (ad.1 3)), (1, .int l1)] [.int s0] S := by
  unfold x2_parseOperand_j47 at h
  refine x_istore_n C dX2_parseOperand_47 rfl (by decide) rfl (x_aload_n C dX2_parseOperand_48 rfl 1 rfl (x_iload_n C dX2_parseOperand_49 rfl 2 rfl (x_if_eq C (tgt := 60) dX2_parseOperand_50 (by decide) (fun c => ?_) (fun c => ?_))))
  · have h := ite_t h c
    exact x_bipush C dX2_parseOperand_60 kb_25 (x_perm [1, 0] rfl (w_x2_parseOperand_j62 C E h))
  · have h := ite_f h c
    exact x_aload_n C dX2_parseOperand_53 rfl 1 rfl (gX_X2_5 C u_1_156 dX2_parseOperand_54 (x_goto C (tgt := 62) dX2_parseOperand_57 (by decide) (x_perm [1, 0] rfl (w_x2_parseOperand_j62 C E h))))
set_option maxHeartbeats 4000000 in
theorem w_x2_parseOperand_j23 {z : ZT} {ad : AD} {ek : EK} {lh : Launch} {Dh : va_G} {S' : ST} (C : CX z ad ek cX2_parseOperand RX2 lh Dh 3 3) (E : EV z (cX ad) cX2_parseOperand S') {S : ST} {s0 : Int32} (h : x2_parseOperand_j23 S s0 = some S') : XW z (cX ad) 23 [(0, .ref (ad.1 3))] [.int s0] S := by
  unfold x2_parseOperand_j23 at h
  refine x_istore_n C dX2_parseOperand_23 rfl (by decide) rfl (x_iload_n C dX2_parseOperand_24 rfl 0 rfl (x_if_eq C (tgt := 42) dX2_parseOperand_25 (by decide) (fun c => ?_) (fun c => ?_)))
  · have h := ite_t h c
    exact x_aload_n C dX2_parseOperand_42 rfl 1 rfl (gX_X2_7 C u_1_158 dX2_parseOperand_43 (x_l2i C dX2_parseOperand_46 (x_perm [1, 0] rfl (w_x2_parseOperand_j47 C E h))))
  · have h := ite_f h c
    exact x_sipush C dX2_parseOperand_28 ks_10000 (x_aload_n C dX2_parseOperand_31 rfl 1 rfl (gX_X2_5 C u_1_156 dX2_parseOperand_32 (x_iadd C dX2_parseOperand_35 (x_bipush C dX2_parseOperand_36 kb_12 (x_isub C dX2_parseOperand_38 (x_goto C (tgt := 47) dX2_parseOperand_39 (by decide) (x_perm [1, 0] rfl (w_x2_parseOperand_j47 C E h))))))))
set_option maxHeartbeats 4000000 in
theorem w_x2_parseOperand_j22 {z : ZT} {ad : AD} {ek : EK} {lh : Launch} {Dh : va_G} {S' : ST} (C : CX z ad ek cX2_parseOperand RX2 lh Dh 3 3) (E : EV z (cX ad) cX2_parseOperand S') {S : ST} (h : x2_parseOperand_j22 S = some S') : XW z (cX ad) 22 [(0, .ref (ad.1 3))] [] S := by
  unfold x2_parseOperand_j22 at h
  exact x_iconst C dX2_parseOperand_22 kc_0 (w_x2_parseOperand_j23 C E h)
set_option maxHeartbeats 4000000 in
theorem c_x2_parseOperand {ad : AD} {ek : EK} {lh : Launch} {Dh : va_G} {S' : ST}  {S : ST} (h : x2_parseOperand S = some S') : MXv lh Dh ad ek (cX ad) yX2_parseOperand cX2_parseOperand 3 none 3 [.ref (ad.1 3)] S S' := by
  refine mxv_of (by decide) (Nat.le_of_ble_eq_true rfl) (fun z C E => ?_)
  unfold x2_parseOperand at h
  refine x_aload_n C dX2_parseOperand_0 rfl 0 rfl (gX_X2_5 C u_1_156 dX2_parseOperand_1 (x_bipush C dX2_parseOperand_4 kb_12 (x_icmp_lt C (tgt := 22) dX2_parseOperand_6 (by decide) (fun c => ?_) (fun c => ?_))))
  · have h := ite_t h c
    exact w_x2_parseOperand_j22 C E h
  · have h := ite_f h c
    refine x_aload_n C dX2_parseOperand_9 rfl 0 rfl (gX_X2_5 C u_1_156 dX2_parseOperand_10 (x_bipush C dX2_parseOperand_13 kb_24 (x_icmp_ge C (tgt := 22) dX2_parseOperand_15 (by decide) (fun c => ?_) (fun c => ?_))))
    · have h := ite_t h c
      exact w_x2_parseOperand_j22 C E h
    · have h := ite_f h c
      exact x_iconst C dX2_parseOperand_18 kc_1 (x_goto C (tgt := 23) dX2_parseOperand_19 (by decide) (w_x2_parseOperand_j23 C E h))
set_option maxHeartbeats 4000000 in
theorem w_x4_work_j162 {z : ZT} {ad : AD} {ek : EK} {lh : Launch} {Dh : va_G} {r : Int32} {S' : ST} (C : CX z ad ek cX4_work RX4 lh Dh 3 8) (E : EI z (cX ad) cX4_work (some .boolean) r S') {Kb : ST → Int32 → Int32 → Int32 → Option (Int32 × ST)} (hKb : ∀ (S : ST) (l3 : Int32) (l5 : Int32) (l6 : Int32) , Kb S l3 l5 l6 = some (r, S') → XW z (cX ad) 20 [(0, .ref (ad.1 10)), (1, .ref (ad.1 13)), (3, .int l3), (4, .ref (ad.1 36)), (5, .int l5), (6, .int l6)] [] S) {S : ST} {l3 : Int32} {l5 : Int32} {l6 : Int32} (h : x4_work_j162 Kb S l3 l5 l6 = some (r, S')) : XW z (cX ad) 162 [(0, .ref (ad.1 10)), (1, .ref (ad.1 13)), (3, .int l3), (4, .ref (ad.1 36)), (5, .int l5), (6, .int l6)] [] S := by
  unfold x4_work_j162 at h
  exact x_iinc C dX4_work_162 5 rfl ki_1 (by decide) rfl (x_goto C (tgt := 20) dX4_work_165 (by decide) (x_perm [1, 2, 3, 4, 5, 0] rfl (hKb _ _ _ _ h)))
set_option maxHeartbeats 4000000 in
theorem w_x4_work_j147 {z : ZT} {ad : AD} {ek : EK} {lh : Launch} {Dh : va_G} {r : Int32} {S' : ST} (C : CX z ad ek cX4_work RX4 lh Dh 3 8) (E : EI z (cX ad) cX4_work (some .boolean) r S') {Kb : ST → Int32 → Int32 → Int32 → Option (Int32 × ST)} (hKb : ∀ (S : ST) (l3 : Int32) (l5 : Int32) (l6 : Int32) , Kb S l3 l5 l6 = some (r, S') → XW z (cX ad) 20 [(0, .ref (ad.1 10)), (1, .ref (ad.1 13)), (3, .int l3), (4, .ref (ad.1 36)), (5, .int l5), (6, .int l6)] [] S) {S : ST} {l3 : Int32} {l6 : Int32} {s0 : Int32} (h : x4_work_j147 Kb S l3 l6 s0 = some (r, S')) : XW z (cX ad) 147 [(0, .ref (ad.1 10)), (1, .ref (ad.1 13)), (3, .int l3), (4, .ref (ad.1 36)), (6, .int l6)] [.int s0] S := by
  unfold x4_work_j147 at h
  exact x_istore C dX4_work_147 (by decide) rfl (x_goto C (tgt := 162) dX4_work_149 (by decide) (x_perm [1, 2, 3, 4, 0, 5] rfl (w_x4_work_j162 C E hKb h)))
set_option maxHeartbeats 4000000 in
theorem w_x4_work_j146 {z : ZT} {ad : AD} {ek : EK} {lh : Launch} {Dh : va_G} {r : Int32} {S' : ST} (C : CX z ad ek cX4_work RX4 lh Dh 3 8) (E : EI z (cX ad) cX4_work (some .boolean) r S') {Kb : ST → Int32 → Int32 → Int32 → Option (Int32 × ST)} (hKb : ∀ (S : ST) (l3 : Int32) (l5 : Int32) (l6 : Int32) , Kb S l3 l5 l6 = some (r, S') → XW z (cX ad) 20 [(0, .ref (ad.1 10)), (1, .ref (ad.1 13)), (3, .int l3), (4, .ref (ad.1 36)), (5, .int l5), (6, .int l6)] [] S) {S : ST} {l3 : Int32} {l6 : Int32} (h : x4_work_j146 Kb S l3 l6 = some (r, S')) : XW z (cX ad) 146 [(0, .ref (ad.1 10)), (1, .ref (ad.1 13)), (3, .int l3), (4, .ref (ad.1 36)), (6, .int l6)] [] S := by
  unfold x4_work_j146 at h
  exact x_iconst C dX4_work_146 kc_0 (w_x4_work_j147 C E hKb h)
set_option maxHeartbeats 4000000 in
theorem w_x4_work_j90 {z : ZT} {ad : AD} {ek : EK} {lh : Launch} {Dh : va_G} {r : Int32} {S' : ST} (C : CX z ad ek cX4_work RX4 lh Dh 3 8) (E : EI z (cX ad) cX4_work (some .boolean) r S') {Kb : ST → Int32 → Int32 → Int32 → Option (Int32 × ST)} (hKb : ∀ (S : ST) (l3 : Int32) (l5 : Int32) (l6 : Int32) , Kb S l3 l5 l6 = some (r, S') → XW z (cX ad) 20 [(0, .ref (ad.1 10)), (1, .ref (ad.1 13)), (3, .int l3), (4, .ref (ad.1 36)), (5, .int l5), (6, .int l6)] [] S) {S : ST} {l3 : Int32} {l5 : Int32} {l6 : Int32} {s0 : Int32} (h : x4_work_j90 Kb S l3 l5 l6 s0 = some (r, S')) : XW z (cX ad) 90 [(0, .ref (ad.1 10)), (1, .ref (ad.1 13)), (3, .int l3), (4, .ref (ad.1 36)), (5, .int l5), (6, .int l6)] [.int s0, .ref (ad.1 10)] S := by
  unfold x4_work_j90 at h
  obtain ⟨S90, e90, h⟩ := calV_some h
  exact x_callVv C (c_x4_push e90) k_X4_29 (ci := 4) (q0 := 10) rfl rfl (by decide) (Nat.le_of_ble_eq_true rfl) rfl dX4_work_90 (x_goto C (tgt := 162) dX4_work_93 (by decide) (w_x4_work_j162 C E hKb h))
set_option maxHeartbeats 4000000 in
theorem w_x4_work_h20 {z : ZT} {ad : AD} {ek : EK} {lh : Launch} {Dh : va_G} {r : Int32} {S' : ST} (C : CX z ad ek cX4_work RX4 lh Dh 3 8) (E : EI z (cX ad) cX4_work (some .boolean) r S') : ∀ (n : Nat) (S : ST) (l3 : Int32) (l5 : Int32) (l6 : Int32), x4_work_h20 n S l3 l5 l6 = some (r, S') → XW z (cX ad) 20 [(0, .ref (ad.1 10)), (1, .ref (ad.1 13)), (3, .int l3), (4, .ref (ad.1 36)), (5, .int l5), (6, .int l6)] [] S := by
  intro n
  induction n with
  | zero => intro S l3 l5 l6 h; cases h
  | succ n ih =>
    intro S l3 l5 l6 h
    have hKb := ih
    refine x_iload C dX4_work_20 5 rfl (x_iload_n C dX4_work_22 rfl 2 rfl (x_icmp_ge C (tgt := 168) dX4_work_23 (by decide) (fun c => ?_) (fun c => ?_)))
    · have h := ite_t h c
      exact (by
        obtain ⟨g170, h⟩ := G_some h
        exact x_iload C dX4_work_168 4 rfl (x_iret E h (retB g170) dX4_work_170))
    · have h := ite_f h c
      refine x_iload C dX4_work_26 5 rfl (x_aload_n C dX4_work_28 rfl 1 rfl (x_alen C 13 1 rfl rfl (v := 2400) rfl dX4_work_29 (x_icmp_ge C (tgt := 168) dX4_work_30 (by decide) (fun c => ?_) (fun c => ?_))))
      · have h := ite_t h c
        exact (by
          obtain ⟨g170, h⟩ := G_some h
          exact x_iload C dX4_work_168 4 rfl (x_iret E h (retB g170) dX4_work_170))
      · have h := ite_f h c
        obtain ⟨g36, h⟩ := G_some h
        refine x_aload_n C dX4_work_33 rfl 1 rfl (x_iload C dX4_work_34 5 rfl (aX_13 C g36 dX4_work_36 (x_istore C dX4_work_37 (by decide) rfl (x_iload C dX4_work_39 0 rfl (x_sipush C dX4_work_41 ks_10000 (x_icmp_ge C (tgt := 56) dX4_work_44 (by decide) (fun c => ?_) (fun c => ?_)))))))
        · have h := ite_t h c
          refine x_iload C dX4_work_56 0 rfl (x_sipush C dX4_work_58 ks_20000 (x_icmp_ge C (tgt := 96) dX4_work_61 (by decide) (fun c => ?_) (fun c => ?_)))
          · have h := ite_t h c
            refine x_iload C dX4_work_96 0 rfl (x_sipush C dX4_work_98 ks_30000 (x_icmp_ge C (tgt := 117) dX4_work_101 (by decide) (fun c => ?_) (fun c => ?_)))
            · have h := ite_t h c
              refine x_iload C dX4_work_117 0 rfl (x_ldc C u_4_65 dX4_work_119 (x_icmp_ge C (tgt := 152) dX4_work_121 (by decide) (fun c => ?_) (fun c => ?_)))
              · have h := ite_t h c
                refine x_iload C dX4_work_152 5 rfl (x_if_eq C (tgt := 159) dX4_work_154 (by decide) (fun c => ?_) (fun c => ?_))
                · have h := ite_t h c
                  exact x_iconst C dX4_work_159 kc_1 (x_istore C dX4_work_160 (by decide) rfl (x_perm [2, 3, 4, 5, 0, 6] rfl (w_x4_work_j162 C E hKb h)))
                · have h := ite_f h c
                  exact (by
                    exact x_iconst C dX4_work_157 kc_1 (x_iret E h (retB rfl) dX4_work_158))
              · have h := ite_f h c
                obtain ⟨r131, S131, e131, h⟩ := cal_some h
                refine x_aload_n C dX4_work_124 rfl 1 rfl (x_iload C dX4_work_125 0 rfl (x_sipush C dX4_work_127 ks_30000 (x_isub C dX4_work_130 (x_callVi C (c_x4_compare e131) k_X4_37 (ci := 4) (q0 := 10) rfl rfl (by decide) (Nat.le_of_ble_eq_true rfl) rfl dX4_work_131 (x_if_eq C (tgt := 146) dX4_work_134 (by decide) (fun c => ?_) (fun c => ?_))))))
                · have h := ite_t h c
                  exact x_perm [1, 2, 3, 4, 6] rfl (w_x4_work_j146 C E hKb h)
                · have h := ite_f h c
                  refine x_iload C dX4_work_137 5 rfl (x_if_eq C (tgt := 146) dX4_work_139 (by decide) (fun c => ?_) (fun c => ?_))
                  · have h := ite_t h c
                    exact x_perm [1, 2, 3, 4, 6] rfl (w_x4_work_j146 C E hKb h)
                  · have h := ite_f h c
                    exact x_iconst C dX4_work_142 kc_1 (x_goto C (tgt := 147) dX4_work_143 (by decide) (x_perm [1, 2, 3, 4, 6] rfl (w_x4_work_j147 C E hKb h)))
            · have h := ite_f h c
              obtain ⟨S111, e111, h⟩ := calV_some h
              exact x_aload_n C dX4_work_104 rfl 1 rfl (x_iload C dX4_work_105 0 rfl (x_sipush C dX4_work_107 ks_20000 (x_isub C dX4_work_110 (x_callVv C (c_x4_calculate e111) k_X4_33 (ci := 4) (q0 := 10) rfl rfl (by decide) (Nat.le_of_ble_eq_true rfl) rfl dX4_work_111 (x_goto C (tgt := 162) dX4_work_114 (by decide) (x_perm [1, 2, 3, 4, 5, 6] rfl (w_x4_work_j162 C E hKb h)))))))
          · have h := ite_f h c
            refine x_aload_n C dX4_work_64 rfl 1 rfl (x_iload C dX4_work_65 0 rfl (x_sipush C dX4_work_67 ks_10000 (x_isub C dX4_work_70 (x_aload C dX4_work_71 4 rfl (x_alen C 36 1 rfl rfl (v := 12) rfl dX4_work_73 (x_icmp_ge C (tgt := 89) dX4_work_74 (by decide) (fun c => ?_) (fun c => ?_)))))))
            · have h := ite_t h c
              exact x_iconst C dX4_work_89 kc_0 (x_perm [1, 2, 3, 4, 5, 6] rfl (w_x4_work_j90 C E hKb h))
            · have h := ite_f h c
              obtain ⟨g85, h⟩ := G_some h
              exact x_aload C dX4_work_77 4 rfl (x_iload C dX4_work_79 0 rfl (x_sipush C dX4_work_81 ks_10000 (x_isub C dX4_work_84 (aX_36 C g85 dX4_work_85 (x_goto C (tgt := 90) dX4_work_86 (by decide) (x_perm [1, 2, 3, 4, 5, 6] rfl (w_x4_work_j90 C E hKb h)))))))
        · have h := ite_f h c
          obtain ⟨S50, e50, h⟩ := calV_some h
          exact x_aload_n C dX4_work_47 rfl 1 rfl (x_iload C dX4_work_48 0 rfl (x_callVv C (c_x4_push e50) k_X4_29 (ci := 4) (q0 := 10) rfl rfl (by decide) (Nat.le_of_ble_eq_true rfl) rfl dX4_work_50 (x_goto C (tgt := 162) dX4_work_53 (by decide) (x_perm [1, 2, 3, 4, 5, 6] rfl (w_x4_work_j162 C E hKb h)))))
set_option maxHeartbeats 4000000 in
theorem c_x4_work {ad : AD} {ek : EK} {lh : Launch} {Dh : va_G} {r : Int32} {S' : ST}  {S : ST} {l2 : Int32} {l3 : Int32} (h : x4_work S l2 l3 = some (r, S')) : MXi lh Dh ad ek (cX ad) yX4_work cX4_work 8 (some .boolean) 3 [.ref (ad.1 10), .ref (ad.1 13), .int l2, .int l3, .ref (ad.1 36)] S r S' := by
  refine mxi_of (by decide) (Nat.le_of_ble_eq_true rfl) (fun z C E => ?_)
  unfold x4_work at h
  obtain ⟨g10, h⟩ := G_some h
  exact x_iconst C dX4_work_0 kc_1 (x_istore C dX4_work_1 (by decide) rfl (x_aload_n C dX4_work_3 rfl 1 rfl (x_iconst C dX4_work_4 kc_0 (pX_X4_1 C u_1_58 dX4_work_5 (x_aload_n C dX4_work_8 rfl 1 rfl (x_iconst C dX4_work_9 kc_0 (pX_X4_2 C u_1_59 g10 dX4_work_10 (x_iconst C dX4_work_13 kc_0 (x_iload_n C dX4_work_14 rfl 3 rfl (x_mmax C u_4_54 (by decide) (Nat.le_of_ble_eq_true rfl) dX4_work_15 (x_istore C dX4_work_18 (by decide) rfl (x_perm [2, 3, 5, 6, 1, 0] rfl (w_x4_work_h20 C E FU _ _ _ _ h)))))))))))))
set_option maxHeartbeats 4000000 in
theorem w_x5_joinOnce_j101 {z : ZT} {ad : AD} {lh : Launch} {Dh : va_G} {r : Int32} {S' : ST} (C : CX z ad (ekX ad) cX5_joinOnce RX5 lh Dh 3 5) (E : EI z (cX ad) cX5_joinOnce (some .boolean) r S') {Kb : ST → Int32 → Int32 → Int32 → Int32 → Option (Int32 × ST)} (hKb : ∀ (S : ST) (l1 : Int32) (l2 : Int32) (l3 : Int32) (l4 : Int32) , Kb S l1 l2 l3 l4 = some (r, S') → XW z (cX ad) 5 [(0, .ref (ad.1 7)), (1, .int l1), (2, .int l2), (3, .int l3), (4, .int l4)] [] S) {S : ST} {l1 : Int32} {l2 : Int32} {l3 : Int32} {l4 : Int32} (h : x5_joinOnce_j101 Kb S l1 l2 l3 l4 = some (r, S')) : XW z (cX ad) 101 [(0, .ref (ad.1 7)), (1, .int l1), (2, .int l2), (3, .int l3), (4, .int l4)] [] S := by
  unfold x5_joinOnce_j101 at h
  exact x_iinc C dX5_joinOnce_101 4 rfl ki_1 (by decide) rfl (x_goto C (tgt := 5) dX5_joinOnce_104 (by decide) (x_perm [1, 2, 3, 4, 0] rfl (hKb _ _ _ _ _ h)))
set_option maxHeartbeats 4000000 in
theorem w_x5_joinOnce_h5 {z : ZT} {ad : AD} {lh : Launch} {Dh : va_G} {r : Int32} {S' : ST} (C : CX z ad (ekX ad) cX5_joinOnce RX5 lh Dh 3 5) (E : EI z (cX ad) cX5_joinOnce (some .boolean) r S') : ∀ (n : Nat) (S : ST) (l1 : Int32) (l2 : Int32) (l3 : Int32) (l4 : Int32), x5_joinOnce_h5 n S l1 l2 l3 l4 = some (r, S') → XW z (cX ad) 5 [(0, .ref (ad.1 7)), (1, .int l1), (2, .int l2), (3, .int l3), (4, .int l4)] [] S := by
  intro n
  induction n with
  | zero => intro S l1 l2 l3 l4 h; cases h
  | succ n ih =>
    intro S l1 l2 l3 l4 h
    have hKb := ih
    refine x_iload C dX5_joinOnce_5 4 rfl (x_iload_n C dX5_joinOnce_7 rfl 2 rfl (x_icmp_ge C (tgt := 107) dX5_joinOnce_8 (by decide) (fun c => ?_) (fun c => ?_)))
    · have h := ite_t h c
      exact (by
        obtain ⟨g108, h⟩ := G_some h
        exact x_iload_n C dX5_joinOnce_107 rfl 3 rfl (x_iret E h (retB g108) dX5_joinOnce_108))
    · have h := ite_f h c
      obtain ⟨g20, h⟩ := G_some h
      refine x_aload_n C dX5_joinOnce_11 rfl 0 rfl (gX_X5_0 C u_2_55 dX5_joinOnce_12 (gX_X0_0 C u_1_191 dX5_joinOnce_15 (x_iload C dX5_joinOnce_18 4 rfl (aX_26 C g20 dX5_joinOnce_20 (x_bipush C dX5_joinOnce_21 kb_8 (x_icmp_ne C (tgt := 101) dX5_joinOnce_23 (by decide) (fun c => ?_) (fun c => ?_)))))))
      · have h := ite_f h c
        exact w_x5_joinOnce_j101 C E hKb h
      · have h := ite_t h c
        obtain ⟨g35, h⟩ := G_some h
        refine x_aload_n C dX5_joinOnce_26 rfl 0 rfl (gX_X5_0 C u_2_55 dX5_joinOnce_27 (gX_X0_1 C u_1_195 dX5_joinOnce_30 (x_iload C dX5_joinOnce_33 4 rfl (aX_27 C g35 dX5_joinOnce_35 (x_iload_n C dX5_joinOnce_36 rfl 1 rfl (x_icmp_gt C (tgt := 101) dX5_joinOnce_37 (by decide) (fun c => ?_) (fun c => ?_)))))))
        · have h := ite_t h c
          exact w_x5_joinOnce_j101 C E hKb h
        · have h := ite_f h c
          obtain ⟨g50, h⟩ := G_some h
          obtain ⟨r51, S51, e51, h⟩ := cal_some h
          obtain ⟨g64, h⟩ := G_some h
          obtain ⟨r65, S65, e65, h⟩ := cal_some h
          refine x_aload_n C dX5_joinOnce_40 rfl 0 rfl (x_aload_n C dX5_joinOnce_41 rfl 0 rfl (gX_X5_0 C u_2_55 dX5_joinOnce_42 (gX_X0_4 C u_1_204 dX5_joinOnce_45 (x_iload C dX5_joinOnce_48 4 rfl (aX_30 C g50 dX5_joinOnce_50 (x_callVi C (c_x5_gathered e51) k_X5_35 (ci := 5) (q0 := 7) rfl rfl (by decide) (Nat.le_of_ble_eq_true rfl) rfl dX5_joinOnce_51 (x_aload_n C dX5_joinOnce_54 rfl 0 rfl (x_aload_n C dX5_joinOnce_55 rfl 0 rfl (gX_X5_0 C u_2_55 dX5_joinOnce_56 (gX_X0_9 C u_1_214 dX5_joinOnce_59 (x_iload C dX5_joinOnce_62 4 rfl (aX_35 C g64 dX5_joinOnce_64 (x_callVi C (c_x5_gathered e65) k_X5_35 (ci := 5) (q0 := 7) rfl rfl (by decide) (Nat.le_of_ble_eq_true rfl) rfl dX5_joinOnce_65 (x_icmp_eq C (tgt := 101) dX5_joinOnce_68 (by decide) (fun c => ?_) (fun c => ?_)))))))))))))))
          · have h := ite_t h c
            exact w_x5_joinOnce_j101 C E hKb h
          · have h := ite_f h c
            obtain ⟨g81, h⟩ := G_some h
            obtain ⟨S82, e82, h⟩ := calV_some h
            obtain ⟨g95, h⟩ := G_some h
            obtain ⟨S96, e96, h⟩ := calV_some h
            exact x_aload_n C dX5_joinOnce_71 rfl 0 rfl (x_aload_n C dX5_joinOnce_72 rfl 0 rfl (gX_X5_0 C u_2_55 dX5_joinOnce_73 (gX_X0_4 C u_1_204 dX5_joinOnce_76 (x_iload C dX5_joinOnce_79 4 rfl (aX_30 C g81 dX5_joinOnce_81 (x_callVv C (c_x5_mark e82) k_X5_42 (ci := 5) (q0 := 7) rfl rfl (by decide) (Nat.le_of_ble_eq_true rfl) rfl dX5_joinOnce_82 (x_aload_n C dX5_joinOnce_85 rfl 0 rfl (x_aload_n C dX5_joinOnce_86 rfl 0 rfl (gX_X5_0 C u_2_55 dX5_joinOnce_87 (gX_X0_9 C u_1_214 dX5_joinOnce_90 (x_iload C dX5_joinOnce_93 4 rfl (aX_35 C g95 dX5_joinOnce_95 (x_callVv C (c_x5_mark e96) k_X5_42 (ci := 5) (q0 := 7) rfl rfl (by decide) (Nat.le_of_ble_eq_true rfl) rfl dX5_joinOnce_96 (x_iconst C dX5_joinOnce_99 kc_1 (x_istore_n C dX5_joinOnce_100 rfl (by decide) rfl (x_perm [1, 2, 3, 0, 4] rfl (w_x5_joinOnce_j101 C E hKb h)))))))))))))))))
set_option maxHeartbeats 4000000 in
theorem c_x5_joinOnce {ad : AD} {lh : Launch} {Dh : va_G} {r : Int32} {S' : ST}  {S : ST} {l1 : Int32} {l2 : Int32} (h : x5_joinOnce S l1 l2 = some (r, S')) : MXi lh Dh ad (ekX ad) (cX ad) yX5_joinOnce cX5_joinOnce 5 (some .boolean) 3 [.ref (ad.1 7), .int l1, .int l2] S r S' := by
  refine mxi_of (by decide) (Nat.le_of_ble_eq_true rfl) (fun z C E => ?_)
  unfold x5_joinOnce at h
  exact x_iconst C dX5_joinOnce_0 kc_0 (x_istore_n C dX5_joinOnce_1 rfl (by decide) rfl (x_iconst C dX5_joinOnce_2 kc_0 (x_istore C dX5_joinOnce_3 (by decide) rfl (x_perm [2, 3, 4, 1, 0] rfl (w_x5_joinOnce_h5 C E FU _ _ _ _ _ h)))))
