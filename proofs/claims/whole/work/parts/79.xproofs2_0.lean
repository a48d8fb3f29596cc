set_option maxHeartbeats 4000000 in
theorem w_x10_cutLetters_j52 {z : ZT} {ad : AD} {lh : Launch} {Dh : va_G} {r : Int32} {S' : ST} (C : CX z ad (ekX ad) cX10_cutLetters RX10 lh Dh 7 6) (E : EI z (cX ad) cX10_cutLetters (some .int) r S') {S : ST} {l2 : Int32} {l3 : Int64} {l5 : Int32} (h : x10_cutLetters_j52 S l2 l3 l5 = some (r, S')) : XW z (cX ad) 52 [(0, .ref (ad.1 11)), (2, .int l2), (3, .long l3), (5, .int l5)] [] S := by
  unfold x10_cutLetters_j52 at h
  refine x_iload C dX10_cutLetters_52 3 rfl (x_iload_n C dX10_cutLetters_54 rfl 1 rfl (x_isub C dX10_cutLetters_55 (x_bipush C dX10_cutLetters_56 kb_8 (x_icmp_le C (tgt := 70) dX10_cutLetters_58 (by decide) (fun c => ?_) (fun c => ?_)))))
  · have h := ite_t h c
    obtain ⟨g79, h⟩ := G_some h
    obtain ⟨r82, e82, h⟩ := cal0_some h
    obtain ⟨r87, S87, e87, h⟩ := cal_some h
    exact x_aload_n C dX10_cutLetters_70 rfl 0 rfl (gX_X10_2 C u_1_138 dX10_cutLetters_71 (x_aload_n C dX10_cutLetters_74 rfl 0 rfl (gX_X10_3 C u_1_140 dX10_cutLetters_75 (x_lload_n C dX10_cutLetters_78 rfl 2 rfl (sX_50 C g79 dX10_cutLetters_79 (x_aload_n C dX10_cutLetters_80 rfl 0 rfl (x_lload_n C dX10_cutLetters_81 rfl 2 rfl (x_callSi C (c_x10_wordToken e82) k_X10_67 (by decide) (Nat.le_of_ble_eq_true rfl) rfl dX10_cutLetters_82 (x_iload C dX10_cutLetters_85 3 rfl (x_callVi C (c_x10_keep e87) k_X10_39 (ci := 10) (q0 := 11) rfl rfl (by decide) (Nat.le_of_ble_eq_true rfl) rfl dX10_cutLetters_87 (x_iret E h retI dX10_cutLetters_90)))))))))))
  · have h := ite_f h c
    obtain ⟨r66, S66, e66, h⟩ := cal_some h
    exact x_aload_n C dX10_cutLetters_61 rfl 0 rfl (x_bipush C dX10_cutLetters_62 kb_38 (x_iload C dX10_cutLetters_64 3 rfl (x_callVi C (c_x10_keep e66) k_X10_39 (ci := 10) (q0 := 11) rfl rfl (by decide) (Nat.le_of_ble_eq_true rfl) rfl dX10_cutLetters_66 (x_iret E h retI dX10_cutLetters_69))))
set_option maxHeartbeats 4000000 in
theorem w_x10_cutLetters_j46 {z : ZT} {ad : AD} {lh : Launch} {Dh : va_G} {r : Int32} {S' : ST} (C : CX z ad (ekX ad) cX10_cutLetters RX10 lh Dh 7 6) (E : EI z (cX ad) cX10_cutLetters (some .int) r S') {Kb : ST → Int32 → Int64 → Int32 → Option (Int32 × ST)} (hKb : ∀ (S : ST) (l2 : Int32) (l3 : Int64) (l5 : Int32) , Kb S l2 l3 l5 = some (r, S') → XW z (cX ad) 5 [(0, .ref (ad.1 11)), (1, .ref (ad.1 1)), (2, .int l2), (3, .long l3), (5, .int l5)] [] S) {K52 : ST → Int32 → Int64 → Int32 → Option (Int32 × ST)} (hK52 : ∀ (S : ST) (l2 : Int32) (l3 : Int64) (l5 : Int32) , K52 S l2 l3 l5 = some (r, S') → XW z (cX ad) 52 [(0, .ref (ad.1 11)), (2, .int l2), (3, .long l3), (5, .int l5)] [] S) {S : ST} {l2 : Int32} {l3 : Int64} {l5 : Int32} (h : x10_cutLetters_j46 Kb K52 S l2 l3 l5 = some (r, S')) : XW z (cX ad) 46 [(0, .ref (ad.1 11)), (1, .ref (ad.1 1)), (2, .int l2), (3, .long l3), (5, .int l5)] [] S := by
  unfold x10_cutLetters_j46 at h
  exact x_iinc C dX10_cutLetters_46 4 rfl ki_1 (by decide) rfl (x_goto C (tgt := 5) dX10_cutLetters_49 (by decide) (x_perm [1, 2, 3, 4, 0] rfl (hKb _ _ _ _ h)))
set_option maxHeartbeats 4000000 in
theorem w_x10_cutLetters_h5 {z : ZT} {ad : AD} {lh : Launch} {Dh : va_G} {r : Int32} {S' : ST} (C : CX z ad (ekX ad) cX10_cutLetters RX10 lh Dh 7 6) (E : EI z (cX ad) cX10_cutLetters (some .int) r S') {K52 : ST → Int32 → Int64 → Int32 → Option (Int32 × ST)} (hK52 : ∀ (S : ST) (l2 : Int32) (l3 : Int64) (l5 : Int32) , K52 S l2 l3 l5 = some (r, S') → XW z (cX ad) 52 [(0, .ref (ad.1 11)), (2, .int l2), (3, .long l3), (5, .int l5)] [] S) : ∀ (n : Nat) (S : ST) (l2 : Int32) (l3 : Int64) (l5 : Int32), x10_cutLetters_h5 K52 n S l2 l3 l5 = some (r, S') → XW z (cX ad) 5 [(0, .ref (ad.1 11)), (1, .ref (ad.1 1)), (2, .int l2), (3, .long l3), (5, .int l5)] [] S := by
  intro n
  induction n with
  | zero => intro S l2 l3 l5 h; cases h
  | succ n ih =>
    intro S l2 l3 l5 h
    have hKb := ih
    refine x_iload C dX10_cutLetters_5 4 rfl (x_aload_n C dX10_cutLetters_7 rfl 1 rfl (gX_X9_1 C u_1_38 dX10_cutLetters_8 (x_icmp_ge C (tgt := 52) dX10_cutLetters_11 (by decide) (fun c => ?_) (fun c => ?_))))
    · have h := ite_t h c
      exact x_perm [0, 2, 3, 4] rfl (hK52 _ _ _ _ h)
    · have h := ite_f h c
      obtain ⟨r17, S17, e17, h⟩ := cal_some h
      obtain ⟨r20, e20, h⟩ := cal0_some h
      refine x_aload_n C dX10_cutLetters_14 rfl 1 rfl (x_iload C dX10_cutLetters_15 4 rfl (x_callVi C (c_x9_byteAt e17) k_X10_36 (ci := 9) (q0 := 1) rfl rfl (by decide) (Nat.le_of_ble_eq_true rfl) rfl dX10_cutLetters_17 (x_callSi C (c_x10_isLetter e20) k_X10_43 (by decide) (Nat.le_of_ble_eq_true rfl) rfl dX10_cutLetters_20 (x_if_eq C (tgt := 52) dX10_cutLetters_23 (by decide) (fun c => ?_) (fun c => ?_)))))
      · have h := ite_t h c
        exact x_perm [0, 2, 3, 4] rfl (hK52 _ _ _ _ h)
      · have h := ite_f h c
        refine x_iload C dX10_cutLetters_26 4 rfl (x_iload_n C dX10_cutLetters_28 rfl 2 rfl (x_isub C dX10_cutLetters_29 (x_bipush C dX10_cutLetters_30 kb_8 (x_icmp_ge C (tgt := 46) dX10_cutLetters_32 (by decide) (fun c => ?_) (fun c => ?_)))))
        · have h := ite_t h c
          exact w_x10_cutLetters_j46 C E hKb hK52 h
        · have h := ite_f h c
          obtain ⟨r39, S39, e39, h⟩ := cal_some h
          obtain ⟨r42, e42, h⟩ := cal0_some h
          exact x_lload_n C dX10_cutLetters_35 rfl 3 rfl (x_aload_n C dX10_cutLetters_36 rfl 1 rfl (x_iload C dX10_cutLetters_37 4 rfl (x_callVi C (c_x9_byteAt e39) k_X10_36 (ci := 9) (q0 := 1) rfl rfl (by decide) (Nat.le_of_ble_eq_true rfl) rfl dX10_cutLetters_39 (x_callSl C (c_x10_packLetter e42) k_X10_63 (by decide) (Nat.le_of_ble_eq_true rfl) rfl dX10_cutLetters_42 (x_lstore_n C dX10_cutLetters_45 rfl (by decide) rfl (x_perm [1, 2, 3, 0, 4] rfl (w_x10_cutLetters_j46 C E hKb hK52 h)))))))
set_option maxHeartbeats 4000000 in
theorem c_x10_cutLetters {ad : AD} {lh : Launch} {Dh : va_G} {r : Int32} {S' : ST}  {S : ST} {l2 : Int32} (h : x10_cutLetters S l2 = some (r, S')) : MXi lh Dh ad (ekX ad) (cX ad) yX10_cutLetters cX10_cutLetters 6 (some .int) 7 [.ref (ad.1 11), .ref (ad.1 1), .int l2] S r S' := by
  refine mxi_of (by decide) (Nat.le_of_ble_eq_true rfl) (fun z C E => ?_)
  unfold x10_cutLetters at h
  exact x_lconst C dX10_cutLetters_0 (v := 0) rfl (x_lstore_n C dX10_cutLetters_1 rfl (by decide) rfl (x_iload_n C dX10_cutLetters_2 rfl 3 rfl (x_istore C dX10_cutLetters_3 (by decide) rfl (x_perm [2, 3, 4, 1, 0] rfl (w_x10_cutLetters_h5 C E (fun _ _ _ _ h => w_x10_cutLetters_j52 C E  h) FU _ _ _ _ h)))))
set_option maxHeartbeats 4000000 in
theorem c_x10_cutOne {ad : AD} {lh : Launch} {Dh : va_G} {r : Int32} {S' : ST}  {S : ST} {l2 : Int32} (h : x10_cutOne S l2 = some (r, S')) : MXi lh Dh ad (ekX ad) (cX ad) yX10_cutOne cX10_cutOne 4 (some .int) 8 [.ref (ad.1 11), .ref (ad.1 1), .int l2] S r S' := by
  refine mxi_of (by decide) (Nat.le_of_ble_eq_true rfl) (fun z C E => ?_)
  unfold x10_cutOne at h
  obtain ⟨r2, S2, e2, h⟩ := cal_some h
  refine x_aload_n C dX10_cutOne_0 rfl 1 rfl (x_iload_n C dX10_cutOne_1 rfl 2 rfl (x_callVi C (c_x9_byteAt e2) k_X10_36 (ci := 9) (q0 := 1) rfl rfl (by decide) (Nat.le_of_ble_eq_true rfl) rfl dX10_cutOne_2 (x_istore_n C dX10_cutOne_5 rfl (by decide) rfl (x_iload_n C dX10_cutOne_6 rfl 0 rfl (x_iconst C dX10_cutOne_7 kc_m1 (x_icmp_ne C (tgt := 19) dX10_cutOne_8 (by decide) (fun c => ?_) (fun c => ?_)))))))
  · have h := ite_f h c
    obtain ⟨r20, e20, h⟩ := cal0_some h
    refine x_iload_n C dX10_cutOne_19 rfl 0 rfl (x_callSi C (c_x10_isLetter e20) k_X10_43 (by decide) (Nat.le_of_ble_eq_true rfl) rfl dX10_cutOne_20 (x_if_eq C (tgt := 33) dX10_cutOne_23 (by decide) (fun c => ?_) (fun c => ?_)))
    · have h := ite_t h c
      obtain ⟨r34, e34, h⟩ := cal0_some h
      refine x_iload_n C dX10_cutOne_33 rfl 0 rfl (x_callSi C (c_x10_isDigit e34) k_X10_50 (by decide) (Nat.le_of_ble_eq_true rfl) rfl dX10_cutOne_34 (x_if_eq C (tgt := 47) dX10_cutOne_37 (by decide) (fun c => ?_) (fun c => ?_)))
      · have h := ite_t h c
        obtain ⟨r53, S53, e53, h⟩ := cal_some h
        refine x_aload_n C dX10_cutOne_47 rfl 1 rfl (x_iload_n C dX10_cutOne_48 rfl 0 rfl (x_aload_n C dX10_cutOne_49 rfl 2 rfl (x_iload_n C dX10_cutOne_50 rfl 3 rfl (x_iconst C dX10_cutOne_51 kc_1 (x_iadd C dX10_cutOne_52 (x_callVi C (c_x9_byteAt e53) k_X10_36 (ci := 9) (q0 := 1) rfl rfl (by decide) (Nat.le_of_ble_eq_true rfl) rfl dX10_cutOne_53 (x_bipush C dX10_cutOne_56 kb_61 (x_icmp_ne C (tgt := 65) dX10_cutOne_58 (by decide) (fun c => ?_) (fun c => ?_)))))))))
        · have h := ite_f h c
          obtain ⟨r67, S67, e67, h⟩ := cal_some h
          exact x_iconst C dX10_cutOne_65 kc_0 (x_iload_n C dX10_cutOne_66 rfl 3 rfl (x_callVi C (c_x10_cutSign e67) k_X10_56 (ci := 10) (q0 := 11) rfl rfl (by decide) (Nat.le_of_ble_eq_true rfl) rfl dX10_cutOne_67 (x_iret E h retI dX10_cutOne_70)))
        · have h := ite_t h c
          obtain ⟨r67, S67, e67, h⟩ := cal_some h
          exact x_iconst C dX10_cutOne_61 kc_1 (x_goto C (tgt := 66) dX10_cutOne_62 (by decide) (x_iload_n C dX10_cutOne_66 rfl 3 rfl (x_callVi C (c_x10_cutSign e67) k_X10_56 (ci := 10) (q0 := 11) rfl rfl (by decide) (Nat.le_of_ble_eq_true rfl) rfl dX10_cutOne_67 (x_iret E h retI dX10_cutOne_70))))
      · have h := ite_f h c
        obtain ⟨r43, S43, e43, h⟩ := cal_some h
        exact x_aload_n C dX10_cutOne_40 rfl 1 rfl (x_aload_n C dX10_cutOne_41 rfl 2 rfl (x_iload_n C dX10_cutOne_42 rfl 3 rfl (x_callVi C (c_x10_cutDigits e43) k_X10_53 (ci := 10) (q0 := 11) rfl rfl (by decide) (Nat.le_of_ble_eq_true rfl) rfl dX10_cutOne_43 (x_iret E h retI dX10_cutOne_46))))
    · have h := ite_f h c
      obtain ⟨r29, S29, e29, h⟩ := cal_some h
      exact x_aload_n C dX10_cutOne_26 rfl 1 rfl (x_aload_n C dX10_cutOne_27 rfl 2 rfl (x_iload_n C dX10_cutOne_28 rfl 3 rfl (x_callVi C (c_x10_cutLetters e29) k_X10_47 (ci := 10) (q0 := 11) rfl rfl (by decide) (Nat.le_of_ble_eq_true rfl) rfl dX10_cutOne_29 (x_iret E h retI dX10_cutOne_32))))
  · have h := ite_t h c
    obtain ⟨r15, S15, e15, h⟩ := cal_some h
    exact x_aload_n C dX10_cutOne_11 rfl 1 rfl (x_bipush C dX10_cutOne_12 kb_37 (x_iload_n C dX10_cutOne_14 rfl 3 rfl (x_callVi C (c_x10_keep e15) k_X10_39 (ci := 10) (q0 := 11) rfl rfl (by decide) (Nat.le_of_ble_eq_true rfl) rfl dX10_cutOne_15 (x_iret E h retI dX10_cutOne_18))))
set_option maxHeartbeats 4000000 in
theorem w_x10_cut_j91 {z : ZT} {ad : AD} {lh : Launch} {Dh : va_G} {S' : ST} (C : CX z ad (ekX ad) cX10_cut RX10 lh Dh 9 4) (E : EV z (cX ad) cX10_cut S') {Kb : ST → Int32 → Int32 → Option ST} (hKb : ∀ (S : ST) (l2 : Int32) (l3 : Int32) , Kb S l2 l3 = some S' → XW z (cX ad) 9 [(0, .ref (ad.1 11)), (1, .ref (ad.1 1)), (2, .int l2), (3, .int l3)] [] S) {S : ST} {l2 : Int32} {s0 : Int32} (h : x10_cut_j91 Kb S l2 s0 = some S') : XW z (cX ad) 91 [(0, .ref (ad.1 11)), (1, .ref (ad.1 1)), (2, .int l2)] [.int s0] S := by
  unfold x10_cut_j91 at h
  exact x_istore_n C dX10_cut_91 rfl (by decide) rfl (x_aload_n C dX10_cut_92 rfl 1 rfl (x_dup C dX10_cut_93 rfl (gX_X10_3 C u_1_140 dX10_cut_94 (x_iconst C dX10_cut_97 kc_1 (x_iadd C dX10_cut_98 (pX_X10_3 C u_1_140 dX10_cut_99 (x_goto C (tgt := 9) dX10_cut_102 (by decide) (x_perm [1, 2, 3, 0] rfl (hKb _ _ _ h)))))))))
set_option maxHeartbeats 4000000 in
theorem w_x10_cut_j90 {z : ZT} {ad : AD} {lh : Launch} {Dh : va_G} {S' : ST} (C : CX z ad (ekX ad) cX10_cut RX10 lh Dh 9 4) (E : EV z (cX ad) cX10_cut S') {Kb : ST → Int32 → Int32 → Option ST} (hKb : ∀ (S : ST) (l2 : Int32) (l3 : Int32) , Kb S l2 l3 = some S' → XW z (cX ad) 9 [(0, .ref (ad.1 11)), (1, .ref (ad.1 1)), (2, .int l2), (3, .int l3)] [] S) {S : ST} {l2 : Int32} (h : x10_cut_j90 Kb S l2 = some S') : XW z (cX ad) 90 [(0, .ref (ad.1 11)), (1, .ref (ad.1 1)), (2, .int l2)] [] S := by
  unfold x10_cut_j90 at h
  exact x_iconst C dX10_cut_90 kc_0 (w_x10_cut_j91 C E hKb h)
set_option maxHeartbeats 4000000 in
theorem w_x10_cut_h9 {z : ZT} {ad : AD} {lh : Launch} {Dh : va_G} {S' : ST} (C : CX z ad (ekX ad) cX10_cut RX10 lh Dh 9 4) (E : EV z (cX ad) cX10_cut S') : ∀ (n : Nat) (S : ST) (l2 : Int32) (l3 : Int32), x10_cut_h9 n S l2 l3 = some S' → XW z (cX ad) 9 [(0, .ref (ad.1 11)), (1, .ref (ad.1 1)), (2, .int l2), (3, .int l3)] [] S := by
  intro n
  induction n with
  | zero => intro S l2 l3 h; cases h
  | succ n ih =>
    intro S l2 l3 h
    have hKb := ih
    refine x_iload_n C dX10_cut_9 rfl 3 rfl (x_if_eq C (tgt := 105) dX10_cut_10 (by decide) (fun c => ?_) (fun c => ?_))
    · have h := ite_t h c
      exact (by
        exact x_vret E h dX10_cut_105)
    · have h := ite_f h c
      refine x_aload_n C dX10_cut_13 rfl 0 rfl (gX_X10_3 C u_1_140 dX10_cut_14 (x_aload_n C dX10_cut_17 rfl 0 rfl (gX_X10_0 C u_1_134 dX10_cut_18 (x_alen C 48 1 rfl rfl (v := 401) rfl dX10_cut_21 (x_icmp_ge C (tgt := 105) dX10_cut_22 (by decide) (fun c => ?_) (fun c => ?_))))))
      · have h := ite_t h c
        exact (by
          exact x_vret E h dX10_cut_105)
      · have h := ite_f h c
        obtain ⟨r27, S27, e27, h⟩ := cal_some h
        obtain ⟨g40, h⟩ := G_some h
        obtain ⟨g50, h⟩ := G_some h
        obtain ⟨r54, S54, e54, h⟩ := cal_some h
        obtain ⟨g66, h⟩ := G_some h
        refine x_aload_n C dX10_cut_25 rfl 1 rfl (x_iload_n C dX10_cut_26 rfl 2 rfl (x_callVi C (c_x9_behindBlanks e27) k_X10_26 (ci := 9) (q0 := 1) rfl rfl (by decide) (Nat.le_of_ble_eq_true rfl) rfl dX10_cut_27 (x_istore_n C dX10_cut_30 rfl (by decide) rfl (x_aload_n C dX10_cut_31 rfl 1 rfl (gX_X10_1 C u_1_136 dX10_cut_32 (x_aload_n C dX10_cut_35 rfl 1 rfl (gX_X10_3 C u_1_140 dX10_cut_36 (x_iload_n C dX10_cut_39 rfl 0 rfl (sX_49 C g40 dX10_cut_40 (x_aload_n C dX10_cut_41 rfl 1 rfl (gX_X10_2 C u_1_138 dX10_cut_42 (x_aload_n C dX10_cut_45 rfl 1 rfl (gX_X10_3 C u_1_140 dX10_cut_46 (x_lconst C dX10_cut_49 (v := 0) rfl (sX_50 C g50 dX10_cut_50 (x_aload_n C dX10_cut_51 rfl 1 rfl (x_aload_n C dX10_cut_52 rfl 2 rfl (x_iload_n C dX10_cut_53 rfl 0 rfl (x_callVi C (c_x10_cutOne e54) k_X10_32 (ci := 10) (q0 := 11) rfl rfl (by decide) (Nat.le_of_ble_eq_true rfl) rfl dX10_cut_54 (x_istore_n C dX10_cut_57 rfl (by decide) rfl (x_aload_n C dX10_cut_58 rfl 1 rfl (gX_X10_0 C u_1_134 dX10_cut_59 (x_aload_n C dX10_cut_62 rfl 1 rfl (gX_X10_3 C u_1_140 dX10_cut_63 (aX_48 C g66 dX10_cut_66 (x_bipush C dX10_cut_67 kb_37 (x_icmp_eq C (tgt := 90) dX10_cut_69 (by decide) (fun c => ?_) (fun c => ?_))))))))))))))))))))))))))))
        · have h := ite_t h c
          exact x_perm [1, 2, 0] rfl (w_x10_cut_j90 C E hKb h)
        · have h := ite_f h c
          obtain ⟨g80, h⟩ := G_some h
          refine x_aload_n C dX10_cut_72 rfl 1 rfl (gX_X10_0 C u_1_134 dX10_cut_73 (x_aload_n C dX10_cut_76 rfl 1 rfl (gX_X10_3 C u_1_140 dX10_cut_77 (aX_48 C g80 dX10_cut_80 (x_bipush C dX10_cut_81 kb_38 (x_icmp_eq C (tgt := 90) dX10_cut_83 (by decide) (fun c => ?_) (fun c => ?_)))))))
          · have h := ite_t h c
            exact x_perm [1, 2, 0] rfl (w_x10_cut_j90 C E hKb h)
          · have h := ite_f h c
            exact x_iconst C dX10_cut_86 kc_1 (x_goto C (tgt := 91) dX10_cut_87 (by decide) (x_perm [1, 2, 0] rfl (w_x10_cut_j91 C E hKb h)))
set_option maxHeartbeats 4000000 in
theorem c_x10_cut {ad : AD} {lh : Launch} {Dh : va_G} {S' : ST}  {S : ST} (h : x10_cut S = some S') : MXv lh Dh ad (ekX ad) (cX ad) yX10_cut cX10_cut 4 none 9 [.ref (ad.1 11), .ref (ad.1 1)] S S' := by
  refine mxv_of (by decide) (Nat.le_of_ble_eq_true rfl) (fun z C E => ?_)
  unfold x10_cut at h
  exact x_iconst C dX10_cut_0 kc_0 (x_istore_n C dX10_cut_1 rfl (by decide) rfl (x_iconst C dX10_cut_2 kc_1 (x_istore_n C dX10_cut_3 rfl (by decide) rfl (x_aload_n C dX10_cut_4 rfl 2 rfl (x_iconst C dX10_cut_5 kc_0 (pX_X10_3 C u_1_140 dX10_cut_6 (x_perm [2, 3, 1, 0] rfl (w_x10_cut_h9 C E FU _ _ _ h))))))))
set_option maxHeartbeats 4000000 in
theorem w_x2_parse_j135 {z : ZT} {ad : AD} {lh : Launch} {Dh : va_G} {r : Int32} {S' : ST} (C : CX z ad (ekX ad) cX2_parse RX2 lh Dh 10 5) (E : EI z (cX ad) cX2_parse (some .int) r S') {S : ST} {l2 : Int32} (h : x2_parse_j135 S l2 = some (r, S')) : XW z (cX ad) 135 [(0, .ref (ad.1 3)), (2, .int l2)] [] S := by
  unfold x2_parse_j135 at h
  refine x_aload_n C dX2_parse_135 rfl 0 rfl (gX_X2_8 C u_1_159 dX2_parse_136 (x_if_ne C (tgt := 150) dX2_parse_139 (by decide) (fun c => ?_) (fun c => ?_)))
  · have h := ite_f h c
    exact x_aload_n C dX2_parse_150 rfl 0 rfl (gX_X2_8 C u_1_159 dX2_parse_151 (x_iret E h retI dX2_parse_154))
  · have h := ite_t h c
    obtain ⟨S147, e147, h⟩ := calV_some h
    exact x_aload_n C dX2_parse_142 rfl 0 rfl (gX_X2_0 C u_1_151 dX2_parse_143 (x_iload_n C dX2_parse_146 rfl 1 rfl (x_callVv C (c_x7_closeText e147) k_X2_63 (ci := 7) (q0 := 2) rfl rfl (by decide) (Nat.le_of_ble_eq_true rfl) rfl dX2_parse_147 (x_aload_n C dX2_parse_150 rfl 0 rfl (gX_X2_8 C u_1_159 dX2_parse_151 (x_iret E h retI dX2_parse_154))))))
set_option maxHeartbeats 4000000 in
theorem w_x2_parse_j112 {z : ZT} {ad : AD} {lh : Launch} {Dh : va_G} {r : Int32} {S' : ST} (C : CX z ad (ekX ad) cX2_parse RX2 lh Dh 10 5) (E : EI z (cX ad) cX2_parse (some .int) r S') {S : ST} {l2 : Int32} {l3 : Int32} (h : x2_parse_j112 S l2 l3 = some (r, S')) : XW z (cX ad) 112 [(0, .ref (ad.1 3)), (2, .int l2), (3, .int l3)] [] S := by
  unfold x2_parse_j112 at h
  refine x_aload_n C dX2_parse_112 rfl 0 rfl (gX_X2_8 C u_1_159 dX2_parse_113 (x_if_ne C (tgt := 135) dX2_parse_116 (by decide) (fun c => ?_) (fun c => ?_)))
  · have h := ite_f h c
    exact x_perm [0, 1] rfl (w_x2_parse_j135 C E h)
  · have h := ite_t h c
    refine x_iload_n C dX2_parse_119 rfl 1 rfl (x_bipush C dX2_parse_120 kb_100 (x_icmp_lt C (tgt := 135) dX2_parse_122 (by decide) (fun c => ?_) (fun c => ?_)))
    · have h := ite_t h c
      exact x_perm [0, 1] rfl (w_x2_parse_j135 C E h)
    · have h := ite_f h c
      exact x_aload_n C dX2_parse_125 rfl 0 rfl (x_iconst C dX2_parse_126 kc_5 (pX_X2_8 C u_1_159 dX2_parse_127 (x_aload_n C dX2_parse_130 rfl 0 rfl (x_iload_n C dX2_parse_131 rfl 2 rfl (pX_X2_9 C u_1_160 dX2_parse_132 (x_perm [0, 1] rfl (w_x2_parse_j135 C E h)))))))
set_option maxHeartbeats 4000000 in
theorem w_x2_parse_h77 {z : ZT} {ad : AD} {lh : Launch} {Dh : va_G} {r : Int32} {S' : ST} (C : CX z ad (ekX ad) cX2_parse RX2 lh Dh 10 5) (E : EI z (cX ad) cX2_parse (some .int) r S') {K112 : ST → Int32 → Int32 → Option (Int32 × ST)} (hK112 : ∀ (S : ST) (l2 : Int32) (l3 : Int32) , K112 S l2 l3 = some (r, S') → XW z (cX ad) 112 [(0, .ref (ad.1 3)), (2, .int l2), (3, .int l3)] [] S) : ∀ (n : Nat) (S : ST) (l2 : Int32) (l3 : Int32) (l4 : Int32), x2_parse_h77 K112 n S l2 l3 l4 = some (r, S') → XW z (cX ad) 77 [(0, .ref (ad.1 3)), (2, .int l2), (3, .int l3), (4, .int l4)] [] S := by
  intro n
  induction n with
  | zero => intro S l2 l3 l4 h; cases h
  | succ n ih =>
    intro S l2 l3 l4 h
    have hKb := ih
    refine x_iload C dX2_parse_77 3 rfl (x_bipush C dX2_parse_79 kb_24 (x_icmp_gt C (tgt := 112) dX2_parse_81 (by decide) (fun c => ?_) (fun c => ?_)))
    · have h := ite_t h c
      exact x_perm [0, 1, 2] rfl (hK112 _ _ _ h)
    · have h := ite_f h c
      refine x_aload_n C dX2_parse_84 rfl 0 rfl (gX_X2_8 C u_1_159 dX2_parse_85 (x_if_ne C (tgt := 112) dX2_parse_88 (by decide) (fun c => ?_) (fun c => ?_)))
      · have h := ite_f h c
        exact x_perm [0, 1, 2] rfl (hK112 _ _ _ h)
      · have h := ite_t h c
        refine x_aload_n C dX2_parse_91 rfl 0 rfl (gX_X2_5 C u_1_156 dX2_parse_92 (x_bipush C dX2_parse_95 kb_37 (x_icmp_eq C (tgt := 112) dX2_parse_97 (by decide) (fun c => ?_) (fun c => ?_))))
        · have h := ite_t h c
          exact x_perm [0, 1, 2] rfl (hK112 _ _ _ h)
        · have h := ite_f h c
          obtain ⟨S103, e103, h⟩ := calV_some h
          exact x_aload_n C dX2_parse_100 rfl 0 rfl (x_iload C dX2_parse_101 3 rfl (x_callVv C (c_x2_parseRule e103) k_X2_60 (ci := 2) (q0 := 3) rfl rfl (by decide) (Nat.le_of_ble_eq_true rfl) rfl dX2_parse_103 (x_iinc C dX2_parse_106 3 rfl ki_1 (by decide) rfl (x_goto C (tgt := 77) dX2_parse_109 (by decide) (x_perm [1, 2, 3, 0] rfl (hKb _ _ _ _ h))))))
set_option maxHeartbeats 4000000 in
theorem w_x2_parse_j74 {z : ZT} {ad : AD} {lh : Launch} {Dh : va_G} {r : Int32} {S' : ST} (C : CX z ad (ekX ad) cX2_parse RX2 lh Dh 10 5) (E : EI z (cX ad) cX2_parse (some .int) r S') {S : ST} {l2 : Int32} {l3 : Int32} (h : x2_parse_j74 S l2 l3 = some (r, S')) : XW z (cX ad) 74 [(0, .ref (ad.1 3)), (2, .int l2), (3, .int l3)] [] S := by
  unfold x2_parse_j74 at h
  exact x_iconst C dX2_parse_74 kc_0 (x_istore C dX2_parse_75 (by decide) rfl (x_perm [1, 2, 3, 0] rfl (w_x2_parse_h77 C E (fun _ _ _ h => w_x2_parse_j112 C E  h) FU _ _ _ _ h)))
set_option maxHeartbeats 4000000 in
theorem c_x2_parse {ad : AD} {lh : Launch} {Dh : va_G} {r : Int32} {S' : ST}  {S : ST} (h : x2_parse S = some (r, S')) : MXi lh Dh ad (ekX ad) (cX ad) yX2_parse cX2_parse 5 (some .int) 10 [.ref (ad.1 3), .ref (ad.1 1)] S r S' := by
  refine mxi_of (by decide) (Nat.le_of_ble_eq_true rfl) (fun z C E => ?_)
  unfold x2_parse at h
  obtain ⟨S9, e9, h⟩ := calV_some h
  obtain ⟨S16, e16, h⟩ := calV_some h
  obtain ⟨S31, e31, h⟩ := calV_some h
  refine x_iconst C dX2_parse_0 kc_0 (x_istore_n C dX2_parse_1 rfl (by decide) rfl (x_iconst C dX2_parse_2 kc_m1 (x_istore_n C dX2_parse_3 rfl (by decide) rfl (x_aload_n C dX2_parse_4 rfl 2 rfl (gX_X2_1 C u_1_152 dX2_parse_5 (x_aload_n C dX2_parse_8 rfl 3 rfl (x_callVv C (c_x10_cut e9) k_X2_30 (ci := 10) (q0 := 11) rfl rfl (by decide) (Nat.le_of_ble_eq_true rfl) rfl dX2_parse_9 (x_aload_n C dX2_parse_12 rfl 2 rfl (gX_X2_0 C u_1_151 dX2_parse_13 (x_callVv C (c_x7_openText e16) k_X2_34 (ci := 7) (q0 := 2) rfl rfl (by decide) (Nat.le_of_ble_eq_true rfl) rfl dX2_parse_16 (x_aload_n C dX2_parse_19 rfl 2 rfl (x_iconst C dX2_parse_20 kc_0 (pX_X2_8 C u_1_159 dX2_parse_21 (x_aload_n C dX2_parse_24 rfl 2 rfl (x_iconst C dX2_parse_25 kc_m1 (pX_X2_9 C u_1_160 dX2_parse_26 (x_aload_n C dX2_parse_29 rfl 2 rfl (x_iconst C dX2_parse_30 kc_0 (x_callVv C (c_x2_moveTo e31) k_X2_42 (ci := 2) (q0 := 3) rfl rfl (by decide) (Nat.le_of_ble_eq_true rfl) rfl dX2_parse_31 (x_aload_n C dX2_parse_34 rfl 2 rfl (gX_X2_5 C u_1_156 dX2_parse_35 (x_if_ne C (tgt := 74) dX2_parse_38 (by decide) (fun c => ?_) (fun c => ?_)))))))))))))))))))))))
  · have h := ite_f h c
    exact x_perm [2, 1, 0] rfl (w_x2_parse_j74 C E h)
  · have h := ite_t h c
    obtain ⟨r43, S43, e43, h⟩ := cal_some h
    refine x_aload_n C dX2_parse_41 rfl 2 rfl (x_iconst C dX2_parse_42 kc_0 (x_callVi C (c_x2_accept e43) k_X2_49 (ci := 2) (q0 := 3) rfl rfl (by decide) (Nat.le_of_ble_eq_true rfl) rfl dX2_parse_43 (x_if_eq C (tgt := 74) dX2_parse_46 (by decide) (fun c => ?_) (fun c => ?_))))
    · have h := ite_t h c
      exact x_perm [2, 1, 0] rfl (w_x2_parse_j74 C E h)
    · have h := ite_f h c
      obtain ⟨r63, S63, e63, h⟩ := cal_some h
      obtain ⟨r70, S70, e70, h⟩ := cal_some h
      exact x_aload_n C dX2_parse_49 rfl 2 rfl (gX_X2_7 C u_1_158 dX2_parse_50 (x_l2i C dX2_parse_53 (x_istore_n C dX2_parse_54 rfl (by decide) rfl (x_aload_n C dX2_parse_55 rfl 2 rfl (gX_X2_6 C u_1_157 dX2_parse_56 (x_istore_n C dX2_parse_59 rfl (by decide) rfl (x_aload_n C dX2_parse_60 rfl 2 rfl (x_bipush C dX2_parse_61 kb_25 (x_callVi C (c_x2_accept e63) k_X2_49 (ci := 2) (q0 := 3) rfl rfl (by decide) (Nat.le_of_ble_eq_true rfl) rfl dX2_parse_63 (x_pop C dX2_parse_66 rfl (x_aload_n C dX2_parse_67 rfl 2 rfl (x_bipush C dX2_parse_68 kb_26 (x_callVi C (c_x2_accept e70) k_X2_49 (ci := 2) (q0 := 3) rfl rfl (by decide) (Nat.le_of_ble_eq_true rfl) rfl dX2_parse_70 (x_pop C dX2_parse_73 rfl (x_perm [2, 1, 0] rfl (w_x2_parse_j74 C E h))))))))))))))))
set_option maxHeartbeats 4000000 in
theorem c_x11_read {ad : AD} {lh : Launch} {Dh : va_G} {r : Int32} {S' : ST}  {S : ST} (h : x11_read S = some (r, S')) : MXi lh Dh ad (ekX ad) (cX ad) yX11_read cX11_read 2 (some .int) 11 [.ref (ad.1 0)] S r S' := by
  refine mxi_of (by decide) (Nat.le_of_ble_eq_true rfl) (fun z C E => ?_)
  unfold x11_read at h
  refine x_aload_n C dX11_read_0 rfl 0 rfl (gX_X11_1 C u_2_140 dX11_read_1 (gX_X7_15 C u_1_88 dX11_read_4 (x_bipush C dX11_read_7 kb_6 (x_icmp_lt C (tgt := 15) dX11_read_9 (by decide) (fun c => ?_) (fun c => ?_)))))
  · have h := ite_t h c
    obtain ⟨r23, S23, e23, h⟩ := cal_some h
    exact x_aload_n C dX11_read_15 rfl 0 rfl (gX_X11_2 C u_2_141 dX11_read_16 (x_aload_n C dX11_read_19 rfl 0 rfl (gX_X11_0 C u_2_139 dX11_read_20 (x_callVi C (c_x2_parse e23) k_X11_98 (ci := 2) (q0 := 3) rfl rfl (by decide) (Nat.le_of_ble_eq_true rfl) rfl dX11_read_23 (x_istore_n C dX11_read_26 rfl (by decide) rfl (x_aload_n C dX11_read_27 rfl 1 rfl (x_aload_n C dX11_read_28 rfl 1 rfl (gX_X11_2 C u_2_141 dX11_read_29 (gX_X2_9 C u_1_161 dX11_read_32 (pX_X11_9 C u_2_148 dX11_read_35 (x_aload_n C dX11_read_38 rfl 1 rfl (gX_X11_0 C u_2_139 dX11_read_39 (x_iconst C dX11_read_42 kc_0 (pX_X9_1 C u_1_37 dX11_read_43 (x_iload_n C dX11_read_46 rfl 0 rfl (x_iret E h retI dX11_read_47))))))))))))))))
  · have h := ite_f h c
    exact x_bipush C dX11_read_12 kb_m2 (x_iret E h retI dX11_read_14)
