set_option maxHeartbeats 4000000 in
theorem c_j6_bitCount_0f7a4 {ad : AD} {ek : EK} {lh : Launch} {Dh : va_G} {w : ST → va_W} {S0 : ST} {r : Int32}  {l0 : Int32} (h : j6_bitCount_0f7a4 l0 = some r) : MXi lh Dh ad ek w yJ6_bitCount_0f7a4 cJ6_bitCount_0f7a4 1 (some .int) 1 [.int l0] S0 r S0 := by
  refine mxi_of (by decide) (Nat.le_of_ble_eq_true rfl) (fun z C E => ?_)
  unfold j6_bitCount_0f7a4 at h
  exact x_iload_n C dJ6_bitCount_0f7a4_0 rfl 0 rfl (x_iload_n C dJ6_bitCount_0f7a4_1 rfl 0 rfl (x_iconst C dJ6_bitCount_0f7a4_2 kc_1 (x_iushr C dJ6_bitCount_0f7a4_3 (x_ldcw C u_4_220 dJ6_bitCount_0f7a4_4 (x_iand C dJ6_bitCount_0f7a4_7 (x_isub C dJ6_bitCount_0f7a4_8 (x_istore_n C dJ6_bitCount_0f7a4_9 rfl (by decide) rfl (x_iload_n C dJ6_bitCount_0f7a4_10 rfl 0 rfl (x_ldcw C u_4_221 dJ6_bitCount_0f7a4_11 (x_iand C dJ6_bitCount_0f7a4_14 (x_iload_n C dJ6_bitCount_0f7a4_15 rfl 0 rfl (x_iconst C dJ6_bitCount_0f7a4_16 kc_2 (x_iushr C dJ6_bitCount_0f7a4_17 (x_ldcw C u_4_221 dJ6_bitCount_0f7a4_18 (x_iand C dJ6_bitCount_0f7a4_21 (x_iadd C dJ6_bitCount_0f7a4_22 (x_istore_n C dJ6_bitCount_0f7a4_23 rfl (by decide) rfl (x_iload_n C dJ6_bitCount_0f7a4_24 rfl 0 rfl (x_iload_n C dJ6_bitCount_0f7a4_25 rfl 0 rfl (x_iconst C dJ6_bitCount_0f7a4_26 kc_4 (x_iushr C dJ6_bitCount_0f7a4_27 (x_iadd C dJ6_bitCount_0f7a4_28 (x_ldcw C u_4_222 dJ6_bitCount_0f7a4_29 (x_iand C dJ6_bitCount_0f7a4_32 (x_istore_n C dJ6_bitCount_0f7a4_33 rfl (by decide) rfl (x_iload_n C dJ6_bitCount_0f7a4_34 rfl 0 rfl (x_iload_n C dJ6_bitCount_0f7a4_35 rfl 0 rfl (x_bipush C dJ6_bitCount_0f7a4_36 kb_8 (x_iushr C dJ6_bitCount_0f7a4_38 (x_iadd C dJ6_bitCount_0f7a4_39 (x_istore_n C dJ6_bitCount_0f7a4_40 rfl (by decide) rfl (x_iload_n C dJ6_bitCount_0f7a4_41 rfl 0 rfl (x_iload_n C dJ6_bitCount_0f7a4_42 rfl 0 rfl (x_bipush C dJ6_bitCount_0f7a4_43 kb_16 (x_iushr C dJ6_bitCount_0f7a4_45 (x_iadd C dJ6_bitCount_0f7a4_46 (x_istore_n C dJ6_bitCount_0f7a4_47 rfl (by decide) rfl (x_iload_n C dJ6_bitCount_0f7a4_48 rfl 0 rfl (x_bipush C dJ6_bitCount_0f7a4_49 kb_63 (x_iand C dJ6_bitCount_0f7a4_51 (x_iret0 E h retI dJ6_bitCount_0f7a4_52)))))))))))))))))))))))))))))))))))))))))
set_option maxHeartbeats 4000000 in
theorem c_j6_compare_7cf53 {ad : AD} {ek : EK} {lh : Launch} {Dh : va_G} {w : ST → va_W} {S0 : ST} {r : Int32}  {l0 : Int32} {l1 : Int32} (h : j6_compare_7cf53 l0 l1 = some r) : MXi lh Dh ad ek w yJ6_compare_7cf53 cJ6_compare_7cf53 2 (some .int) 1 [.int l0, .int l1] S0 r S0 := by
  refine mxi_of (by decide) (Nat.le_of_ble_eq_true rfl) (fun z C E => ?_)
  unfold j6_compare_7cf53 at h
  refine x_iload_n C dJ6_compare_7cf53_0 rfl 0 rfl (x_iload_n C dJ6_compare_7cf53_1 rfl 1 rfl (x_icmp_ge C (tgt := 9) dJ6_compare_7cf53_2 (by decide) (fun c => ?_) (fun c => ?_)))
  · have h := ite_t h c
    refine x_iload_n C dJ6_compare_7cf53_9 rfl 0 rfl (x_iload_n C dJ6_compare_7cf53_10 rfl 1 rfl (x_icmp_ne C (tgt := 18) dJ6_compare_7cf53_11 (by decide) (fun c => ?_) (fun c => ?_)))
    · have h := ite_f h c
      exact x_iconst C dJ6_compare_7cf53_18 kc_1 (x_iret0 E h retI dJ6_compare_7cf53_19)
    · have h := ite_t h c
      exact x_iconst C dJ6_compare_7cf53_14 kc_0 (x_goto C (tgt := 19) dJ6_compare_7cf53_15 (by decide) (x_iret0 E h retI dJ6_compare_7cf53_19))
  · have h := ite_f h c
    exact x_iconst C dJ6_compare_7cf53_5 kc_m1 (x_goto C (tgt := 19) dJ6_compare_7cf53_6 (by decide) (x_iret0 E h retI dJ6_compare_7cf53_19))
set_option maxHeartbeats 4000000 in
theorem c_x0_isAbout {ad : AD} {ek : EK} {lh : Launch} {Dh : va_G} {r : Int32} {S' : ST}  {S : ST} {l1 : Int32} {l2 : Int32} {l3 : Int32} (h : x0_isAbout S l1 l2 l3 = some (r, S')) : MXi lh Dh ad ek (cX ad) yX0_isAbout cX0_isAbout 4 (some .boolean) 1 [.ref (ad.1 4), .int l1, .int l2, .int l3] S r S' := by
  refine mxi_of (by decide) (Nat.le_of_ble_eq_true rfl) (fun z C E => ?_)
  unfold x0_isAbout at h
  obtain ⟨g5, h⟩ := G_some h
  refine x_aload_n C dX0_isAbout_0 rfl 0 rfl (gX_X0_0 C u_1_189 dX0_isAbout_1 (x_iload_n C dX0_isAbout_4 rfl 1 rfl (aX_26 C g5 dX0_isAbout_5 (x_iload_n C dX0_isAbout_6 rfl 2 rfl (x_icmp_ne C (tgt := 24) dX0_isAbout_7 (by decide) (fun c => ?_) (fun c => ?_))))))
  · have h := ite_f h c
    exact x_iconst C dX0_isAbout_24 kc_0 (x_iret E h (retB rfl) dX0_isAbout_25)
  · have h := ite_t h c
    obtain ⟨g15, h⟩ := G_some h
    refine x_aload_n C dX0_isAbout_10 rfl 0 rfl (gX_X0_8 C u_1_210 dX0_isAbout_11 (x_iload_n C dX0_isAbout_14 rfl 1 rfl (aX_34 C g15 dX0_isAbout_15 (x_iload_n C dX0_isAbout_16 rfl 3 rfl (x_icmp_ne C (tgt := 24) dX0_isAbout_17 (by decide) (fun c => ?_) (fun c => ?_))))))
    · have h := ite_f h c
      exact x_iconst C dX0_isAbout_24 kc_0 (x_iret E h (retB rfl) dX0_isAbout_25)
    · have h := ite_t h c
      exact x_iconst C dX0_isAbout_20 kc_1 (x_goto C (tgt := 25) dX0_isAbout_21 (by decide) (x_iret E h (retB rfl) dX0_isAbout_25))
set_option maxHeartbeats 4000000 in
theorem c_x0_isOfKind {ad : AD} {ek : EK} {lh : Launch} {Dh : va_G} {r : Int32} {S' : ST}  {S : ST} {l1 : Int32} {l2 : Int32} {l3 : Int32} (h : x0_isOfKind S l1 l2 l3 = some (r, S')) : MXi lh Dh ad ek (cX ad) yX0_isOfKind cX0_isOfKind 4 (some .boolean) 1 [.ref (ad.1 4), .int l1, .int l2, .int l3] S r S' := by
  refine mxi_of (by decide) (Nat.le_of_ble_eq_true rfl) (fun z C E => ?_)
  unfold x0_isOfKind at h
  refine x_iload_n C dX0_isOfKind_0 rfl 1 rfl (x_if_lt C (tgt := 31) dX0_isOfKind_1 (by decide) (fun c => ?_) (fun c => ?_))
  · have h := ite_t h c
    exact x_iconst C dX0_isOfKind_31 kc_0 (x_iret E h (retB rfl) dX0_isOfKind_32)
  · have h := ite_f h c
    refine x_iload_n C dX0_isOfKind_4 rfl 1 rfl (x_iload_n C dX0_isOfKind_5 rfl 3 rfl (x_icmp_ge C (tgt := 31) dX0_isOfKind_6 (by decide) (fun c => ?_) (fun c => ?_)))
    · have h := ite_t h c
      exact x_iconst C dX0_isOfKind_31 kc_0 (x_iret E h (retB rfl) dX0_isOfKind_32)
    · have h := ite_f h c
      refine x_iload_n C dX0_isOfKind_9 rfl 1 rfl (x_aload_n C dX0_isOfKind_10 rfl 0 rfl (gX_X0_10 C u_1_217 dX0_isOfKind_11 (x_icmp_ge C (tgt := 31) dX0_isOfKind_14 (by decide) (fun c => ?_) (fun c => ?_))))
      · have h := ite_t h c
        exact x_iconst C dX0_isOfKind_31 kc_0 (x_iret E h (retB rfl) dX0_isOfKind_32)
      · have h := ite_f h c
        obtain ⟨g22, h⟩ := G_some h
        refine x_aload_n C dX0_isOfKind_17 rfl 0 rfl (gX_X0_0 C u_1_189 dX0_isOfKind_18 (x_iload_n C dX0_isOfKind_21 rfl 1 rfl (aX_26 C g22 dX0_isOfKind_22 (x_iload_n C dX0_isOfKind_23 rfl 2 rfl (x_icmp_ne C (tgt := 31) dX0_isOfKind_24 (by decide) (fun c => ?_) (fun c => ?_))))))
        · have h := ite_f h c
          exact x_iconst C dX0_isOfKind_31 kc_0 (x_iret E h (retB rfl) dX0_isOfKind_32)
        · have h := ite_t h c
          exact x_iconst C dX0_isOfKind_27 kc_1 (x_goto C (tgt := 32) dX0_isOfKind_28 (by decide) (x_iret E h (retB rfl) dX0_isOfKind_32))
set_option maxHeartbeats 4000000 in
theorem c_x0_laterOf {ad : AD} {ek : EK} {lh : Launch} {Dh : va_G} {r : Int32} {S' : ST}  {S : ST} {l1 : Int32} {l2 : Int32} {l3 : Int32} (h : x0_laterOf S l1 l2 l3 = some (r, S')) : MXi lh Dh ad ek (cX ad) yX0_laterOf cX0_laterOf 4 (some .int) 1 [.ref (ad.1 4), .int l1, .int l2, .int l3] S r S' := by
  refine mxi_of (by decide) (Nat.le_of_ble_eq_true rfl) (fun z C E => ?_)
  unfold x0_laterOf at h
  obtain ⟨g5, h⟩ := G_some h
  refine x_aload_n C dX0_laterOf_0 rfl 0 rfl (gX_X0_1 C u_1_192 dX0_laterOf_1 (x_iload_n C dX0_laterOf_4 rfl 2 rfl (aX_27 C g5 dX0_laterOf_5 (x_iload_n C dX0_laterOf_6 rfl 3 rfl (x_icmp_le C (tgt := 12) dX0_laterOf_7 (by decide) (fun c => ?_) (fun c => ?_))))))
  · have h := ite_t h c
    refine x_iload_n C dX0_laterOf_12 rfl 1 rfl (x_iconst C dX0_laterOf_13 kc_m1 (x_icmp_eq C (tgt := 32) dX0_laterOf_14 (by decide) (fun c => ?_) (fun c => ?_)))
    · have h := ite_t h c
      exact x_iload_n C dX0_laterOf_32 rfl 2 rfl (x_goto C (tgt := 37) dX0_laterOf_33 (by decide) (x_iret E h retI dX0_laterOf_37))
    · have h := ite_f h c
      obtain ⟨g22, h⟩ := G_some h
      obtain ⟨g28, h⟩ := G_some h
      refine x_aload_n C dX0_laterOf_17 rfl 0 rfl (gX_X0_1 C u_1_192 dX0_laterOf_18 (x_iload_n C dX0_laterOf_21 rfl 2 rfl (aX_27 C g22 dX0_laterOf_22 (x_aload_n C dX0_laterOf_23 rfl 0 rfl (gX_X0_1 C u_1_192 dX0_laterOf_24 (x_iload_n C dX0_laterOf_27 rfl 1 rfl (aX_27 C g28 dX0_laterOf_28 (x_icmp_lt C (tgt := 36) dX0_laterOf_29 (by decide) (fun c => ?_) (fun c => ?_)))))))))
      · have h := ite_t h c
        exact x_iload_n C dX0_laterOf_36 rfl 1 rfl (x_iret E h retI dX0_laterOf_37)
      · have h := ite_f h c
        exact x_iload_n C dX0_laterOf_32 rfl 2 rfl (x_goto C (tgt := 37) dX0_laterOf_33 (by decide) (x_iret E h retI dX0_laterOf_37))
  · have h := ite_f h c
    exact x_iload_n C dX0_laterOf_10 rfl 1 rfl (x_iret E h retI dX0_laterOf_11)
set_option maxHeartbeats 4000000 in
theorem w_x0_linesBeside_j57 {z : ZT} {ad : AD} {ek : EK} {lh : Launch} {Dh : va_G} {r : Int32} {S' : ST} (C : CX z ad ek cX0_linesBeside RX0 lh Dh 1 5) (E : EI z (cX ad) cX0_linesBeside (some .int) r S') {Kb : ST → Int32 → Int32 → Int32 → Int32 → Option (Int32 × ST)} (hKb : ∀ (S : ST) (l1 : Int32) (l2 : Int32) (l3 : Int32) (l4 : Int32) , Kb S l1 l2 l3 l4 = some (r, S') → XW z (cX ad) 5 [(0, .ref (ad.1 4)), (1, .int l1), (2, .int l2), (3, .int l3), (4, .int l4)] [] S) {S : ST} {l1 : Int32} {l2 : Int32} {l3 : Int32} {l4 : Int32} (h : x0_linesBeside_j57 Kb S l1 l2 l3 l4 = some (r, S')) : XW z (cX ad) 57 [(0, .ref (ad.1 4)), (1, .int l1), (2, .int l2), (3, .int l3), (4, .int l4)] [] S := by
  unfold x0_linesBeside_j57 at h
  exact x_iinc C dX0_linesBeside_57 4 rfl ki_1 (by decide) rfl (x_goto C (tgt := 5) dX0_linesBeside_60 (by decide) (x_perm [1, 2, 3, 4, 0] rfl (hKb _ _ _ _ _ h)))
set_option maxHeartbeats 4000000 in
theorem w_x0_linesBeside_h5 {z : ZT} {ad : AD} {ek : EK} {lh : Launch} {Dh : va_G} {r : Int32} {S' : ST} (C : CX z ad ek cX0_linesBeside RX0 lh Dh 1 5) (E : EI z (cX ad) cX0_linesBeside (some .int) r S') : ∀ (n : Nat) (S : ST) (l1 : Int32) (l2 : Int32) (l3 : Int32) (l4 : Int32), x0_linesBeside_h5 n S l1 l2 l3 l4 = some (r, S') → XW z (cX ad) 5 [(0, .ref (ad.1 4)), (1, .int l1), (2, .int l2), (3, .int l3), (4, .int l4)] [] S := by
  intro n
  induction n with
  | zero => intro S l1 l2 l3 l4 h; cases h
  | succ n ih =>
    intro S l1 l2 l3 l4 h
    have hKb := ih
    refine x_iload C dX0_linesBeside_5 4 rfl (x_iload_n C dX0_linesBeside_7 rfl 2 rfl (x_icmp_ge C (tgt := 63) dX0_linesBeside_8 (by decide) (fun c => ?_) (fun c => ?_)))
    · have h := ite_t h c
      exact (by
        exact x_iload_n C dX0_linesBeside_63 rfl 3 rfl (x_iret E h retI dX0_linesBeside_64))
    · have h := ite_f h c
      obtain ⟨g17, h⟩ := G_some h
      refine x_aload_n C dX0_linesBeside_11 rfl 0 rfl (gX_X0_0 C u_1_189 dX0_linesBeside_12 (x_iload C dX0_linesBeside_15 4 rfl (aX_26 C g17 dX0_linesBeside_17 (x_iconst C dX0_linesBeside_18 kc_4 (x_icmp_ne C (tgt := 57) dX0_linesBeside_19 (by decide) (fun c => ?_) (fun c => ?_))))))
      · have h := ite_f h c
        exact w_x0_linesBeside_j57 C E hKb h
      · have h := ite_t h c
        obtain ⟨g28, h⟩ := G_some h
        obtain ⟨g34, h⟩ := G_some h
        refine x_aload_n C dX0_linesBeside_22 rfl 0 rfl (gX_X0_1 C u_1_192 dX0_linesBeside_23 (x_iload C dX0_linesBeside_26 4 rfl (aX_27 C g28 dX0_linesBeside_28 (x_aload_n C dX0_linesBeside_29 rfl 0 rfl (gX_X0_1 C u_1_192 dX0_linesBeside_30 (x_iload_n C dX0_linesBeside_33 rfl 1 rfl (aX_27 C g34 dX0_linesBeside_34 (x_icmp_ne C (tgt := 57) dX0_linesBeside_35 (by decide) (fun c => ?_) (fun c => ?_)))))))))
        · have h := ite_f h c
          exact w_x0_linesBeside_j57 C E hKb h
        · have h := ite_t h c
          obtain ⟨g44, h⟩ := G_some h
          obtain ⟨g50, h⟩ := G_some h
          refine x_aload_n C dX0_linesBeside_38 rfl 0 rfl (gX_X0_3 C u_1_200 dX0_linesBeside_39 (x_iload C dX0_linesBeside_42 4 rfl (aX_29 C g44 dX0_linesBeside_44 (x_aload_n C dX0_linesBeside_45 rfl 0 rfl (gX_X0_3 C u_1_200 dX0_linesBeside_46 (x_iload_n C dX0_linesBeside_49 rfl 1 rfl (aX_29 C g50 dX0_linesBeside_50 (x_icmp_ne C (tgt := 57) dX0_linesBeside_51 (by decide) (fun c => ?_) (fun c => ?_)))))))))
          · have h := ite_f h c
            exact w_x0_linesBeside_j57 C E hKb h
          · have h := ite_t h c
            exact x_iinc C dX0_linesBeside_54 3 rfl ki_1 (by decide) rfl (x_perm [1, 2, 3, 0, 4] rfl (w_x0_linesBeside_j57 C E hKb h))
set_option maxHeartbeats 4000000 in
theorem c_x0_linesBeside {ad : AD} {ek : EK} {lh : Launch} {Dh : va_G} {r : Int32} {S' : ST}  {S : ST} {l1 : Int32} {l2 : Int32} (h : x0_linesBeside S l1 l2 = some (r, S')) : MXi lh Dh ad ek (cX ad) yX0_linesBeside cX0_linesBeside 5 (some .int) 1 [.ref (ad.1 4), .int l1, .int l2] S r S' := by
  refine mxi_of (by decide) (Nat.le_of_ble_eq_true rfl) (fun z C E => ?_)
  unfold x0_linesBeside at h
  exact x_iconst C dX0_linesBeside_0 kc_0 (x_istore_n C dX0_linesBeside_1 rfl (by decide) rfl (x_iconst C dX0_linesBeside_2 kc_0 (x_istore C dX0_linesBeside_3 (by decide) rfl (x_perm [2, 3, 4, 1, 0] rfl (w_x0_linesBeside_h5 C E FU _ _ _ _ _ h)))))
set_option maxHeartbeats 4000000 in
theorem w_x0_officeOf_j42 {z : ZT} {ad : AD} {ek : EK} {lh : Launch} {Dh : va_G} {r : Int32} {S' : ST} (C : CX z ad ek cX0_officeOf RX0 lh Dh 1 5) (E : EI z (cX ad) cX0_officeOf (some .int) r S') {Kb : ST → Int32 → Int32 → Int32 → Int32 → Option (Int32 × ST)} (hKb : ∀ (S : ST) (l1 : Int32) (l2 : Int32) (l3 : Int32) (l4 : Int32) , Kb S l1 l2 l3 l4 = some (r, S') → XW z (cX ad) 5 [(0, .ref (ad.1 4)), (1, .int l1), (2, .int l2), (3, .int l3), (4, .int l4)] [] S) {S : ST} {l1 : Int32} {l2 : Int32} {l3 : Int32} {l4 : Int32} (h : x0_officeOf_j42 Kb S l1 l2 l3 l4 = some (r, S')) : XW z (cX ad) 42 [(0, .ref (ad.1 4)), (1, .int l1), (2, .int l2), (3, .int l3), (4, .int l4)] [] S := by
  unfold x0_officeOf_j42 at h
  exact x_iinc C dX0_officeOf_42 4 rfl ki_1 (by decide) rfl (x_goto C (tgt := 5) dX0_officeOf_45 (by decide) (x_perm [1, 2, 3, 4, 0] rfl (hKb _ _ _ _ _ h)))
set_option maxHeartbeats 4000000 in
theorem w_x0_officeOf_h5 {z : ZT} {ad : AD} {ek : EK} {lh : Launch} {Dh : va_G} {r : Int32} {S' : ST} (C : CX z ad ek cX0_officeOf RX0 lh Dh 1 5) (E : EI z (cX ad) cX0_officeOf (some .int) r S') : ∀ (n : Nat) (S : ST) (l1 : Int32) (l2 : Int32) (l3 : Int32) (l4 : Int32), x0_officeOf_h5 n S l1 l2 l3 l4 = some (r, S') → XW z (cX ad) 5 [(0, .ref (ad.1 4)), (1, .int l1), (2, .int l2), (3, .int l3), (4, .int l4)] [] S := by
  intro n
  induction n with
  | zero => intro S l1 l2 l3 l4 h; cases h
  | succ n ih =>
    intro S l1 l2 l3 l4 h
    have hKb := ih
    refine x_iload C dX0_officeOf_5 4 rfl (x_iload_n C dX0_officeOf_7 rfl 2 rfl (x_icmp_ge C (tgt := 48) dX0_officeOf_8 (by decide) (fun c => ?_) (fun c => ?_)))
    · have h := ite_t h c
      exact (by
        exact x_iload_n C dX0_officeOf_48 rfl 3 rfl (x_iret E h retI dX0_officeOf_49))
    · have h := ite_f h c
      obtain ⟨g17, h⟩ := G_some h
      refine x_aload_n C dX0_officeOf_11 rfl 0 rfl (gX_X0_0 C u_1_189 dX0_officeOf_12 (x_iload C dX0_officeOf_15 4 rfl (aX_26 C g17 dX0_officeOf_17 (x_bipush C dX0_officeOf_18 kb_6 (x_icmp_ne C (tgt := 42) dX0_officeOf_20 (by decide) (fun c => ?_) (fun c => ?_))))))
      · have h := ite_f h c
        exact w_x0_officeOf_j42 C E hKb h
      · have h := ite_t h c
        obtain ⟨g29, h⟩ := G_some h
        refine x_aload_n C dX0_officeOf_23 rfl 0 rfl (gX_X0_7 C u_1_208 dX0_officeOf_24 (x_iload C dX0_officeOf_27 4 rfl (aX_33 C g29 dX0_officeOf_29 (x_iload_n C dX0_officeOf_30 rfl 1 rfl (x_icmp_ne C (tgt := 42) dX0_officeOf_31 (by decide) (fun c => ?_) (fun c => ?_))))))
        · have h := ite_f h c
          exact w_x0_officeOf_j42 C E hKb h
        · have h := ite_t h c
          obtain ⟨g40, h⟩ := G_some h
          exact x_aload_n C dX0_officeOf_34 rfl 0 rfl (gX_X0_9 C u_1_213 dX0_officeOf_35 (x_iload C dX0_officeOf_38 4 rfl (aX_35 C g40 dX0_officeOf_40 (x_istore_n C dX0_officeOf_41 rfl (by decide) rfl (x_perm [1, 2, 3, 0, 4] rfl (w_x0_officeOf_j42 C E hKb h))))))
set_option maxHeartbeats 4000000 in
theorem c_x0_officeOf {ad : AD} {ek : EK} {lh : Launch} {Dh : va_G} {r : Int32} {S' : ST}  {S : ST} {l1 : Int32} {l2 : Int32} (h : x0_officeOf S l1 l2 = some (r, S')) : MXi lh Dh ad ek (cX ad) yX0_officeOf cX0_officeOf 5 (some .int) 1 [.ref (ad.1 4), .int l1, .int l2] S r S' := by
  refine mxi_of (by decide) (Nat.le_of_ble_eq_true rfl) (fun z C E => ?_)
  unfold x0_officeOf at h
  exact x_iconst C dX0_officeOf_0 kc_0 (x_istore_n C dX0_officeOf_1 rfl (by decide) rfl (x_iconst C dX0_officeOf_2 kc_0 (x_istore C dX0_officeOf_3 (by decide) rfl (x_perm [2, 3, 4, 1, 0] rfl (w_x0_officeOf_h5 C E FU _ _ _ _ _ h)))))
set_option maxHeartbeats 4000000 in
theorem w_x0_paperWord_j73 {z : ZT} {ad : AD} {ek : EK} {lh : Launch} {Dh : va_G} {r : Int32} {S' : ST} (C : CX z ad ek cX0_paperWord RX0 lh Dh 1 5) (E : EI z (cX ad) cX0_paperWord (some .int) r S') {Kb : ST → Int32 → Int32 → Int32 → Int32 → Option (Int32 × ST)} (hKb : ∀ (S : ST) (l1 : Int32) (l2 : Int32) (l3 : Int32) (l4 : Int32) , Kb S l1 l2 l3 l4 = some (r, S') → XW z (cX ad) 5 [(0, .ref (ad.1 4)), (1, .int l1), (2, .int l2), (3, .int l3), (4, .int l4)] [] S) {S : ST} {l1 : Int32} {l2 : Int32} {l3 : Int32} {l4 : Int32} (h : x0_paperWord_j73 Kb S l1 l2 l3 l4 = some (r, S')) : XW z (cX ad) 73 [(0, .ref (ad.1 4)), (1, .int l1), (2, .int l2), (3, .int l3), (4, .int l4)] [] S := by
  unfold x0_paperWord_j73 at h
  exact x_iinc C dX0_paperWord_73 4 rfl ki_1 (by decide) rfl (x_goto C (tgt := 5) dX0_paperWord_76 (by decide) (x_perm [1, 2, 3, 4, 0] rfl (hKb _ _ _ _ _ h)))
set_option maxHeartbeats 4000000 in
theorem w_x0_paperWord_h5 {z : ZT} {ad : AD} {ek : EK} {lh : Launch} {Dh : va_G} {r : Int32} {S' : ST} (C : CX z ad ek cX0_paperWord RX0 lh Dh 1 5) (E : EI z (cX ad) cX0_paperWord (some .int) r S') : ∀ (n : Nat) (S : ST) (l1 : Int32) (l2 : Int32) (l3 : Int32) (l4 : Int32), x0_paperWord_h5 n S l1 l2 l3 l4 = some (r, S') → XW z (cX ad) 5 [(0, .ref (ad.1 4)), (1, .int l1), (2, .int l2), (3, .int l3), (4, .int l4)] [] S := by
  intro n
  induction n with
  | zero => intro S l1 l2 l3 l4 h; cases h
  | succ n ih =>
    intro S l1 l2 l3 l4 h
    have hKb := ih
    obtain ⟨g10, h⟩ := G_some h
    refine x_aload_n C dX0_paperWord_5 rfl 0 rfl (gX_X0_9 C u_1_213 dX0_paperWord_6 (x_iload_n C dX0_paperWord_9 rfl 1 rfl (aX_35 C g10 dX0_paperWord_10 (x_iconst C dX0_paperWord_11 kc_1 (x_icmp_ne C (tgt := 79) dX0_paperWord_12 (by decide) (fun c => ?_) (fun c => ?_))))))
    · have h := ite_f h c
      exact (by
        exact x_iload_n C dX0_paperWord_79 rfl 3 rfl (x_iret E h retI dX0_paperWord_80))
    · have h := ite_t h c
      refine x_iload C dX0_paperWord_15 4 rfl (x_iload_n C dX0_paperWord_17 rfl 2 rfl (x_icmp_ge C (tgt := 79) dX0_paperWord_18 (by decide) (fun c => ?_) (fun c => ?_)))
      · have h := ite_t h c
        exact (by
          exact x_iload_n C dX0_paperWord_79 rfl 3 rfl (x_iret E h retI dX0_paperWord_80))
      · have h := ite_f h c
        obtain ⟨g27, h⟩ := G_some h
        refine x_aload_n C dX0_paperWord_21 rfl 0 rfl (gX_X0_0 C u_1_189 dX0_paperWord_22 (x_iload C dX0_paperWord_25 4 rfl (aX_26 C g27 dX0_paperWord_27 (x_bipush C dX0_paperWord_28 kb_7 (x_icmp_ne C (tgt := 73) dX0_paperWord_30 (by decide) (fun c => ?_) (fun c => ?_))))))
        · have h := ite_f h c
          exact w_x0_paperWord_j73 C E hKb h
        · have h := ite_t h c
          obtain ⟨g39, h⟩ := G_some h
          obtain ⟨g45, h⟩ := G_some h
          refine x_aload_n C dX0_paperWord_33 rfl 0 rfl (gX_X0_5 C u_1_206 dX0_paperWord_34 (x_iload C dX0_paperWord_37 4 rfl (aX_31 C g39 dX0_paperWord_39 (x_aload_n C dX0_paperWord_40 rfl 0 rfl (gX_X0_5 C u_1_206 dX0_paperWord_41 (x_iload_n C dX0_paperWord_44 rfl 1 rfl (aX_31 C g45 dX0_paperWord_45 (x_icmp_ne C (tgt := 73) dX0_paperWord_46 (by decide) (fun c => ?_) (fun c => ?_)))))))))
          · have h := ite_f h c
            exact w_x0_paperWord_j73 C E hKb h
          · have h := ite_t h c
            obtain ⟨g55, h⟩ := G_some h
            obtain ⟨g61, h⟩ := G_some h
            refine x_aload_n C dX0_paperWord_49 rfl 0 rfl (gX_X0_6 C u_1_207 dX0_paperWord_50 (x_iload C dX0_paperWord_53 4 rfl (aX_32 C g55 dX0_paperWord_55 (x_aload_n C dX0_paperWord_56 rfl 0 rfl (gX_X0_6 C u_1_207 dX0_paperWord_57 (x_iload_n C dX0_paperWord_60 rfl 1 rfl (aX_32 C g61 dX0_paperWord_61 (x_icmp_ne C (tgt := 73) dX0_paperWord_62 (by decide) (fun c => ?_) (fun c => ?_)))))))))
            · have h := ite_f h c
              exact w_x0_paperWord_j73 C E hKb h
            · have h := ite_t h c
              obtain ⟨g71, h⟩ := G_some h
              exact x_aload_n C dX0_paperWord_65 rfl 0 rfl (gX_X0_4 C u_1_203 dX0_paperWord_66 (x_iload C dX0_paperWord_69 4 rfl (aX_30 C g71 dX0_paperWord_71 (x_istore_n C dX0_paperWord_72 rfl (by decide) rfl (x_perm [1, 2, 3, 0, 4] rfl (w_x0_paperWord_j73 C E hKb h))))))
set_option maxHeartbeats 4000000 in
theorem c_x0_paperWord {ad : AD} {ek : EK} {lh : Launch} {Dh : va_G} {r : Int32} {S' : ST}  {S : ST} {l1 : Int32} {l2 : Int32} (h : x0_paperWord S l1 l2 = some (r, S')) : MXi lh Dh ad ek (cX ad) yX0_paperWord cX0_paperWord 5 (some .int) 1 [.ref (ad.1 4), .int l1, .int l2] S r S' := by
  refine mxi_of (by decide) (Nat.le_of_ble_eq_true rfl) (fun z C E => ?_)
  unfold x0_paperWord at h
  exact x_iconst C dX0_paperWord_0 kc_0 (x_istore_n C dX0_paperWord_1 rfl (by decide) rfl (x_iconst C dX0_paperWord_2 kc_0 (x_istore C dX0_paperWord_3 (by decide) rfl (x_perm [2, 3, 4, 1, 0] rfl (w_x0_paperWord_h5 C E FU _ _ _ _ _ h)))))
set_option maxHeartbeats 4000000 in
theorem c_x0_setPaper {ad : AD} {ek : EK} {lh : Launch} {Dh : va_G} {S' : ST}  {S : ST} {l1 : Int32} {l2 : Int32} {l3 : Int32} (h : x0_setPaper S l1 l2 l3 = some S') : MXv lh Dh ad ek (cX ad) yX0_setPaper cX0_setPaper 4 none 1 [.ref (ad.1 4), .int l1, .int l2, .int l3] S S' := by
  refine mxv_of (by decide) (Nat.le_of_ble_eq_true rfl) (fun z C E => ?_)
  unfold x0_setPaper at h
  refine x_iload_n C dX0_setPaper_0 rfl 1 rfl (x_if_lt C (tgt := 26) dX0_setPaper_1 (by decide) (fun c => ?_) (fun c => ?_))
  · have h := ite_t h c
    exact x_vret E h dX0_setPaper_26
  · have h := ite_f h c
    refine x_iload_n C dX0_setPaper_4 rfl 1 rfl (x_aload_n C dX0_setPaper_5 rfl 0 rfl (gX_X0_10 C u_1_217 dX0_setPaper_6 (x_icmp_ge C (tgt := 26) dX0_setPaper_9 (by decide) (fun c => ?_) (fun c => ?_))))
    · have h := ite_t h c
      exact x_vret E h dX0_setPaper_26
    · have h := ite_f h c
      obtain ⟨g18, h⟩ := G_some h
      obtain ⟨g25, h⟩ := G_some h
      exact x_aload_n C dX0_setPaper_12 rfl 0 rfl (gX_X0_5 C u_1_206 dX0_setPaper_13 (x_iload_n C dX0_setPaper_16 rfl 1 rfl (x_iload_n C dX0_setPaper_17 rfl 2 rfl (sX_31 C g18 dX0_setPaper_18 (x_aload_n C dX0_setPaper_19 rfl 0 rfl (gX_X0_6 C u_1_207 dX0_setPaper_20 (x_iload_n C dX0_setPaper_23 rfl 1 rfl (x_iload_n C dX0_setPaper_24 rfl 3 rfl (sX_32 C g25 dX0_setPaper_25 (x_vret E h dX0_setPaper_26))))))))))
set_option maxHeartbeats 4000000 in
theorem c_x0_standsBehind {ad : AD} {ek : EK} {lh : Launch} {Dh : va_G} {r : Int32} {S' : ST}  {S : ST} {l1 : Int32} {l2 : Int32} (h : x0_standsBehind S l1 l2 = some (r, S')) : MXi lh Dh ad ek (cX ad) yX0_standsBehind cX0_standsBehind 3 (some .boolean) 1 [.ref (ad.1 4), .int l1, .int l2] S r S' := by
  refine mxi_of (by decide) (Nat.le_of_ble_eq_true rfl) (fun z C E => ?_)
  unfold x0_standsBehind at h
  obtain ⟨g5, h⟩ := G_some h
  obtain ⟨g11, h⟩ := G_some h
  refine x_aload_n C dX0_standsBehind_0 rfl 0 rfl (gX_X0_1 C u_1_192 dX0_standsBehind_1 (x_iload_n C dX0_standsBehind_4 rfl 1 rfl (aX_27 C g5 dX0_standsBehind_5 (x_aload_n C dX0_standsBehind_6 rfl 0 rfl (gX_X0_1 C u_1_192 dX0_standsBehind_7 (x_iload_n C dX0_standsBehind_10 rfl 2 rfl (aX_27 C g11 dX0_standsBehind_11 (x_icmp_eq C (tgt := 36) dX0_standsBehind_12 (by decide) (fun c => ?_) (fun c => ?_)))))))))
  · have h := ite_t h c
    obtain ⟨g41, h⟩ := G_some h
    obtain ⟨g47, h⟩ := G_some h
    refine x_aload_n C dX0_standsBehind_36 rfl 0 rfl (gX_X0_2 C u_1_197 dX0_standsBehind_37 (x_iload_n C dX0_standsBehind_40 rfl 1 rfl (aX_28 C g41 dX0_standsBehind_41 (x_aload_n C dX0_standsBehind_42 rfl 0 rfl (gX_X0_2 C u_1_197 dX0_standsBehind_43 (x_iload_n C dX0_standsBehind_46 rfl 2 rfl (aX_28 C g47 dX0_standsBehind_47 (x_icmp_le C (tgt := 55) dX0_standsBehind_48 (by decide) (fun c => ?_) (fun c => ?_)))))))))
    · have h := ite_t h c
      exact x_iconst C dX0_standsBehind_55 kc_0 (x_iret E h (retB rfl) dX0_standsBehind_56)
    · have h := ite_f h c
      exact x_iconst C dX0_standsBehind_51 kc_1 (x_goto C (tgt := 56) dX0_standsBehind_52 (by decide) (x_iret E h (retB rfl) dX0_standsBehind_56))
  · have h := ite_f h c
    obtain ⟨g20, h⟩ := G_some h
    obtain ⟨g26, h⟩ := G_some h
    refine x_aload_n C dX0_standsBehind_15 rfl 0 rfl (gX_X0_1 C u_1_192 dX0_standsBehind_16 (x_iload_n C dX0_standsBehind_19 rfl 1 rfl (aX_27 C g20 dX0_standsBehind_20 (x_aload_n C dX0_standsBehind_21 rfl 0 rfl (gX_X0_1 C u_1_192 dX0_standsBehind_22 (x_iload_n C dX0_standsBehind_25 rfl 2 rfl (aX_27 C g26 dX0_standsBehind_26 (x_icmp_le C (tgt := 34) dX0_standsBehind_27 (by decide) (fun c => ?_) (fun c => ?_)))))))))
    · have h := ite_t h c
      exact x_iconst C dX0_standsBehind_34 kc_0 (x_iret E h (retB rfl) dX0_standsBehind_35)
    · have h := ite_f h c
      exact x_iconst C dX0_standsBehind_30 kc_1 (x_goto C (tgt := 35) dX0_standsBehind_31 (by decide) (x_iret E h (retB rfl) dX0_standsBehind_35))
set_option maxHeartbeats 4000000 in
theorem c_x0_tell {ad : AD} {ek : EK} {lh : Launch} {Dh : va_G} {r : Int32} {S' : ST}  {S : ST} {l1 : Int32} {l2 : Int32} {l3 : Int32} (h : x0_tell S l1 l2 l3 = some (r, S')) : MXi lh Dh ad ek (cX ad) yX0_tell cX0_tell 4 (some .int) 1 [.ref (ad.1 4), .int l1, .int l2, .int l3] S r S' := by
  refine mxi_of (by decide) (Nat.le_of_ble_eq_true rfl) (fun z C E => ?_)
  unfold x0_tell at h
  refine x_aload_n C dX0_tell_0 rfl 0 rfl (gX_X0_10 C u_1_217 dX0_tell_1 (x_sipush C dX0_tell_4 ks_180 (x_icmp_lt C (tgt := 12) dX0_tell_7 (by decide) (fun c => ?_) (fun c => ?_))))
  · have h := ite_t h c
    obtain ⟨g21, h⟩ := G_some h
    obtain ⟨g31, h⟩ := G_some h
    obtain ⟨g41, h⟩ := G_some h
    exact x_aload_n C dX0_tell_12 rfl 0 rfl (gX_X0_0 C u_1_189 dX0_tell_13 (x_aload_n C dX0_tell_16 rfl 0 rfl (gX_X0_10 C u_1_217 dX0_tell_17 (x_iload_n C dX0_tell_20 rfl 1 rfl (sX_26 C g21 dX0_tell_21 (x_aload_n C dX0_tell_22 rfl 0 rfl (gX_X0_1 C u_1_192 dX0_tell_23 (x_aload_n C dX0_tell_26 rfl 0 rfl (gX_X0_10 C u_1_217 dX0_tell_27 (x_iload_n C dX0_tell_30 rfl 2 rfl (sX_27 C g31 dX0_tell_31 (x_aload_n C dX0_tell_32 rfl 0 rfl (gX_X0_4 C u_1_203 dX0_tell_33 (x_aload_n C dX0_tell_36 rfl 0 rfl (gX_X0_10 C u_1_217 dX0_tell_37 (x_iload_n C dX0_tell_40 rfl 3 rfl (sX_30 C g41 dX0_tell_41 (x_aload_n C dX0_tell_42 rfl 0 rfl (x_dup C dX0_tell_43 rfl (gX_X0_10 C u_1_217 dX0_tell_44 (x_iconst C dX0_tell_47 kc_1 (x_iadd C dX0_tell_48 (pX_X0_10 C u_1_217 dX0_tell_49 (x_aload_n C dX0_tell_52 rfl 0 rfl (gX_X0_10 C u_1_217 dX0_tell_53 (x_iconst C dX0_tell_56 kc_1 (x_isub C dX0_tell_57 (x_iret E h retI dX0_tell_58))))))))))))))))))))))))))))
  · have h := ite_f h c
    exact x_iconst C dX0_tell_10 kc_m1 (x_iret E h retI dX0_tell_11)
set_option maxHeartbeats 4000000 in
theorem c_x10_isDigit {ad : AD} {ek : EK} {lh : Launch} {Dh : va_G} {w : ST → va_W} {S0 : ST} {r : Int32}  {l0 : Int32} (h : x10_isDigit l0 = some r) : MXi lh Dh ad ek w yX10_isDigit cX10_isDigit 1 (some .boolean) 1 [.int l0] S0 r S0 := by
  refine mxi_of (by decide) (Nat.le_of_ble_eq_true rfl) (fun z C E => ?_)
  unfold x10_isDigit at h
  refine x_iload_n C dX10_isDigit_0 rfl 0 rfl (x_bipush C dX10_isDigit_1 kb_48 (x_icmp_lt C (tgt := 16) dX10_isDigit_3 (by decide) (fun c => ?_) (fun c => ?_)))
  · have h := ite_t h c
    exact x_iconst C dX10_isDigit_16 kc_0 (x_iret0 E h (retB rfl) dX10_isDigit_17)
  · have h := ite_f h c
    refine x_iload_n C dX10_isDigit_6 rfl 0 rfl (x_bipush C dX10_isDigit_7 kb_57 (x_icmp_gt C (tgt := 16) dX10_isDigit_9 (by decide) (fun c => ?_) (fun c => ?_)))
    · have h := ite_t h c
      exact x_iconst C dX10_isDigit_16 kc_0 (x_iret0 E h (retB rfl) dX10_isDigit_17)
    · have h := ite_f h c
      exact x_iconst C dX10_isDigit_12 kc_1 (x_goto C (tgt := 17) dX10_isDigit_13 (by decide) (x_iret0 E h (retB rfl) dX10_isDigit_17))
set_option maxHeartbeats 4000000 in
theorem c_x10_isLetter {ad : AD} {ek : EK} {lh : Launch} {Dh : va_G} {w : ST → va_W} {S0 : ST} {r : Int32}  {l0 : Int32} (h : x10_isLetter l0 = some r) : MXi lh Dh ad ek w yX10_isLetter cX10_isLetter 1 (some .boolean) 1 [.int l0] S0 r S0 := by
  refine mxi_of (by decide) (Nat.le_of_ble_eq_true rfl) (fun z C E => ?_)
  unfold x10_isLetter at h
  refine x_iload_n C dX10_isLetter_0 rfl 0 rfl (x_bipush C dX10_isLetter_1 kb_97 (x_icmp_lt C (tgt := 16) dX10_isLetter_3 (by decide) (fun c => ?_) (fun c => ?_)))
  · have h := ite_t h c
    exact x_iconst C dX10_isLetter_16 kc_0 (x_iret0 E h (retB rfl) dX10_isLetter_17)
  · have h := ite_f h c
    refine x_iload_n C dX10_isLetter_6 rfl 0 rfl (x_bipush C dX10_isLetter_7 kb_122 (x_icmp_gt C (tgt := 16) dX10_isLetter_9 (by decide) (fun c => ?_) (fun c => ?_)))
    · have h := ite_t h c
      exact x_iconst C dX10_isLetter_16 kc_0 (x_iret0 E h (retB rfl) dX10_isLetter_17)
    · have h := ite_f h c
      exact x_iconst C dX10_isLetter_12 kc_1 (x_goto C (tgt := 17) dX10_isLetter_13 (by decide) (x_iret0 E h (retB rfl) dX10_isLetter_17))
set_option maxHeartbeats 4000000 in
theorem c_x10_keep {ad : AD} {ek : EK} {lh : Launch} {Dh : va_G} {r : Int32} {S' : ST}  {S : ST} {l1 : Int32} {l2 : Int32} (h : x10_keep S l1 l2 = some (r, S')) : MXi lh Dh ad ek (cX ad) yX10_keep cX10_keep 3 (some .int) 1 [.ref (ad.1 11), .int l1, .int l2] S r S' := by
  refine mxi_of (by decide) (Nat.le_of_ble_eq_true rfl) (fun z C E => ?_)
  unfold x10_keep at h
  refine x_aload_n C dX10_keep_0 rfl 0 rfl (gX_X10_3 C u_1_140 dX10_keep_1 (x_if_lt C (tgt := 29) dX10_keep_4 (by decide) (fun c => ?_) (fun c => ?_)))
  · have h := ite_t h c
    exact x_iload_n C dX10_keep_29 rfl 2 rfl (x_iret E h retI dX10_keep_30)
  · have h := ite_f h c
    refine x_aload_n C dX10_keep_7 rfl 0 rfl (gX_X10_3 C u_1_140 dX10_keep_8 (x_aload_n C dX10_keep_11 rfl 0 rfl (gX_X10_0 C u_1_134 dX10_keep_12 (x_alen C 48 1 rfl rfl (v := 401) rfl dX10_keep_15 (x_icmp_ge C (tgt := 29) dX10_keep_16 (by decide) (fun c => ?_) (fun c => ?_))))))
    · have h := ite_t h c
      exact x_iload_n C dX10_keep_29 rfl 2 rfl (x_iret E h retI dX10_keep_30)
    · have h := ite_f h c
      obtain ⟨g28, h⟩ := G_some h
      exact x_aload_n C dX10_keep_19 rfl 0 rfl (gX_X10_0 C u_1_134 dX10_keep_20 (x_aload_n C dX10_keep_23 rfl 0 rfl (gX_X10_3 C u_1_140 dX10_keep_24 (x_iload_n C dX10_keep_27 rfl 1 rfl (sX_48 C g28 dX10_keep_28 (x_iload_n C dX10_keep_29 rfl 2 rfl (x_iret E h retI dX10_keep_30)))))))
set_option maxHeartbeats 4000000 in
theorem c_x10_packLetter {ad : AD} {ek : EK} {lh : Launch} {Dh : va_G} {w : ST → va_W} {S0 : ST} {r : Int64}  {l0 : Int64} {l2 : Int32} (h : x10_packLetter l0 l2 = some r) : MXl lh Dh ad ek w yX10_packLetter cX10_packLetter 3 (some .long) 1 [.long l0, .int l2] S0 r S0 := by
  refine mxl_of (by decide) (Nat.le_of_ble_eq_true rfl) (fun z C E => ?_)
  unfold x10_packLetter at h
  exact x_lload_n C dX10_packLetter_0 rfl 0 rfl (x_ldc2 C u_2_228 dX10_packLetter_1 (x_lmul C dX10_packLetter_4 (x_iload_n C dX10_packLetter_5 rfl 1 rfl (x_bipush C dX10_packLetter_6 kb_97 (x_isub C dX10_packLetter_8 (x_iconst C dX10_packLetter_9 kc_1 (x_iadd C dX10_packLetter_10 (x_i2l C dX10_packLetter_11 (x_ladd C dX10_packLetter_12 (x_lret0 E h dX10_packLetter_13))))))))))
set_option maxHeartbeats 4000000 in
theorem c_x11_back {ad : AD} {ek : EK} {lh : Launch} {Dh : va_G} {r : Int32} {S' : ST}  {S : ST} {l1 : Int32} (h : x11_back S l1 = some (r, S')) : MXi lh Dh ad ek (cX ad) yX11_back cX11_back 2 (some .int) 1 [.ref (ad.1 0), .int l1] S r S' := by
  refine mxi_of (by decide) (Nat.le_of_ble_eq_true rfl) (fun z C E => ?_)
  unfold x11_back at h
  refine x_iload_n C dX11_back_0 rfl 1 rfl (x_if_lt C (tgt := 15) dX11_back_1 (by decide) (fun c => ?_) (fun c => ?_))
  · have h := ite_t h c
    exact x_iconst C dX11_back_15 kc_m1 (x_iret E h retI dX11_back_16)
  · have h := ite_f h c
    refine x_iload_n C dX11_back_4 rfl 1 rfl (x_aload_n C dX11_back_5 rfl 0 rfl (gX_X11_0 C u_2_139 dX11_back_6 (gX_X9_1 C u_1_37 dX11_back_9 (x_icmp_le C (tgt := 17) dX11_back_12 (by decide) (fun c => ?_) (fun c => ?_)))))
    · have h := ite_t h c
      exact x_aload_n C dX11_back_17 rfl 0 rfl (gX_X11_0 C u_2_139 dX11_back_18 (x_dup C dX11_back_21 rfl (gX_X9_1 C u_1_37 dX11_back_22 (x_iload_n C dX11_back_25 rfl 1 rfl (x_isub C dX11_back_26 (pX_X9_1 C u_1_37 dX11_back_27 (x_aload_n C dX11_back_30 rfl 0 rfl (gX_X11_0 C u_2_139 dX11_back_31 (gX_X9_1 C u_1_37 dX11_back_34 (x_iret E h retI dX11_back_37))))))))))
    · have h := ite_f h c
      exact x_iconst C dX11_back_15 kc_m1 (x_iret E h retI dX11_back_16)
set_option maxHeartbeats 4000000 in
theorem c_x11_isBelow {ad : AD} {ek : EK} {lh : Launch} {Dh : va_G} {w : ST → va_W} {S0 : ST} {r : Int32}  {l0 : Int32} {l1 : Int32} (h : x11_isBelow l0 l1 = some r) : MXi lh Dh ad ek w yX11_isBelow cX11_isBelow 2 (some .boolean) 1 [.int l0, .int l1] S0 r S0 := by
  refine mxi_of (by decide) (Nat.le_of_ble_eq_true rfl) (fun z C E => ?_)
  unfold x11_isBelow at h
  refine x_iload_n C dX11_isBelow_0 rfl 0 rfl (x_if_lt C (tgt := 13) dX11_isBelow_1 (by decide) (fun c => ?_) (fun c => ?_))
  · have h := ite_t h c
    exact x_iconst C dX11_isBelow_13 kc_0 (x_iret0 E h (retB rfl) dX11_isBelow_14)
  · have h := ite_f h c
    refine x_iload_n C dX11_isBelow_4 rfl 0 rfl (x_iload_n C dX11_isBelow_5 rfl 1 rfl (x_icmp_ge C (tgt := 13) dX11_isBelow_6 (by decide) (fun c => ?_) (fun c => ?_)))
    · have h := ite_t h c
      exact x_iconst C dX11_isBelow_13 kc_0 (x_iret0 E h (retB rfl) dX11_isBelow_14)
    · have h := ite_f h c
      exact x_iconst C dX11_isBelow_9 kc_1 (x_goto C (tgt := 14) dX11_isBelow_10 (by decide) (x_iret0 E h (retB rfl) dX11_isBelow_14))
set_option maxHeartbeats 4000000 in
theorem c_x11_isKnown {ad : AD} {ek : EK} {lh : Launch} {Dh : va_G} {r : Int32} {S' : ST}  {S : ST} {l1 : Int32} (h : x11_isKnown S l1 = some (r, S')) : MXi lh Dh ad ek (cX ad) yX11_isKnown cX11_isKnown 2 (some .boolean) 1 [.ref (ad.1 0), .int l1] S r S' := by
  refine mxi_of (by decide) (Nat.le_of_ble_eq_true rfl) (fun z C E => ?_)
  unfold x11_isKnown at h
  refine x_iload_n C dX11_isKnown_0 rfl 1 rfl (x_if_lt C (tgt := 19) dX11_isKnown_1 (by decide) (fun c => ?_) (fun c => ?_))
  · have h := ite_t h c
    exact x_iconst C dX11_isKnown_19 kc_0 (x_iret E h (retB rfl) dX11_isKnown_20)
  · have h := ite_f h c
    refine x_iload_n C dX11_isKnown_4 rfl 1 rfl (x_aload_n C dX11_isKnown_5 rfl 0 rfl (gX_X11_3 C u_2_142 dX11_isKnown_6 (gX_X0_10 C u_1_218 dX11_isKnown_9 (x_icmp_gt C (tgt := 19) dX11_isKnown_12 (by decide) (fun c => ?_) (fun c => ?_)))))
    · have h := ite_t h c
      exact x_iconst C dX11_isKnown_19 kc_0 (x_iret E h (retB rfl) dX11_isKnown_20)
    · have h := ite_f h c
      exact x_iconst C dX11_isKnown_15 kc_1 (x_goto C (tgt := 20) dX11_isKnown_16 (by decide) (x_iret E h (retB rfl) dX11_isKnown_20))
set_option maxHeartbeats 4000000 in
theorem c_x11_isWord {ad : AD} {ek : EK} {lh : Launch} {Dh : va_G} {w : ST → va_W} {S0 : ST} {r : Int32}  {l0 : Int32} (h : x11_isWord l0 = some r) : MXi lh Dh ad ek w yX11_isWord cX11_isWord 1 (some .boolean) 1 [.int l0] S0 r S0 := by
  refine mxi_of (by decide) (Nat.le_of_ble_eq_true rfl) (fun z C E => ?_)
  unfold x11_isWord at h
  refine x_iload_n C dX11_isWord_0 rfl 0 rfl (x_iconst C dX11_isWord_1 kc_1 (x_icmp_lt C (tgt := 16) dX11_isWord_2 (by decide) (fun c => ?_) (fun c => ?_)))
  · have h := ite_t h c
    exact x_iconst C dX11_isWord_16 kc_0 (x_iret0 E h (retB rfl) dX11_isWord_17)
  · have h := ite_f h c
    refine x_iload_n C dX11_isWord_5 rfl 0 rfl (x_sipush C dX11_isWord_6 ks_1000 (x_icmp_ge C (tgt := 16) dX11_isWord_9 (by decide) (fun c => ?_) (fun c => ?_)))
    · have h := ite_t h c
      exact x_iconst C dX11_isWord_16 kc_0 (x_iret0 E h (retB rfl) dX11_isWord_17)
    · have h := ite_f h c
      exact x_iconst C dX11_isWord_12 kc_1 (x_goto C (tgt := 17) dX11_isWord_13 (by decide) (x_iret0 E h (retB rfl) dX11_isWord_17))
set_option maxHeartbeats 4000000 in
theorem c_x11_place {ad : AD} {ek : EK} {lh : Launch} {Dh : va_G} {r : Int32} {S' : ST}  {S : ST} (h : x11_place S = some (r, S')) : MXi lh Dh ad ek (cX ad) yX11_place cX11_place 1 (some .int) 1 [.ref (ad.1 0)] S r S' := by
  refine mxi_of (by decide) (Nat.le_of_ble_eq_true rfl) (fun z C E => ?_)
  unfold x11_place at h
  exact x_aload_n C dX11_place_0 rfl 0 rfl (gX_X11_9 C u_2_148 dX11_place_1 (x_iret E h retI dX11_place_4))
set_option maxHeartbeats 4000000 in
theorem c_x1_entry {ad : AD} {ek : EK} {lh : Launch} {Dh : va_G} {r : Int32} {S' : ST}  {S : ST} {l1 : Int32} (h : x1_entry S l1 = some (r, S')) : MXi lh Dh ad ek (cX ad) yX1_entry cX1_entry 2 (some .int) 1 [.ref (ad.1 6), .int l1] S r S' := by
  refine mxi_of (by decide) (Nat.le_of_ble_eq_true rfl) (fun z C E => ?_)
  unfold x1_entry at h
  refine x_iload_n C dX1_entry_0 rfl 1 rfl (x_if_lt C (tgt := 30) dX1_entry_1 (by decide) (fun c => ?_) (fun c => ?_))
  · have h := ite_t h c
    exact x_iconst C dX1_entry_30 kc_m1 (x_iret E h retI dX1_entry_31)
  · have h := ite_f h c
    refine x_iload_n C dX1_entry_4 rfl 1 rfl (x_aload_n C dX1_entry_5 rfl 0 rfl (gX_X1_4 C u_2_73 dX1_entry_6 (x_icmp_ge C (tgt := 30) dX1_entry_9 (by decide) (fun c => ?_) (fun c => ?_))))
    · have h := ite_t h c
      exact x_iconst C dX1_entry_30 kc_m1 (x_iret E h retI dX1_entry_31)
    · have h := ite_f h c
      refine x_iload_n C dX1_entry_12 rfl 1 rfl (x_aload_n C dX1_entry_13 rfl 0 rfl (gX_X1_3 C u_2_72 dX1_entry_14 (x_alen C 37 1 rfl rfl (v := 180) rfl dX1_entry_17 (x_icmp_ge C (tgt := 30) dX1_entry_18 (by decide) (fun c => ?_) (fun c => ?_)))))
      · have h := ite_t h c
        exact x_iconst C dX1_entry_30 kc_m1 (x_iret E h retI dX1_entry_31)
      · have h := ite_f h c
        obtain ⟨g26, h⟩ := G_some h
        exact x_aload_n C dX1_entry_21 rfl 0 rfl (gX_X1_3 C u_2_72 dX1_entry_22 (x_iload_n C dX1_entry_25 rfl 1 rfl (aX_37 C g26 dX1_entry_26 (x_goto C (tgt := 31) dX1_entry_27 (by decide) (x_iret E h retI dX1_entry_31)))))
set_option maxHeartbeats 4000000 in
theorem w_x2_bindsAsTight_j17 {z : ZT} {ad : AD} {ek : EK} {w : ST → va_W} {lh : Launch} {Dh : va_G} {r : Int32} {S0 : ST} (C : CX z ad ek cX2_bindsAsTight RX2 lh Dh 1 3) (E : EI z w cX2_bindsAsTight (some .boolean) r S0) {l0 : Int32} {s0 : Int32} (h : x2_bindsAsTight_j17 l0 s0 = some r) : XW z w 17 [(0, .int l0)] [.int s0] S0 := by
  unfold x2_bindsAsTight_j17 at h
  refine x_istore_n C dX2_bindsAsTight_17 rfl (by decide) rfl (x_iload_n C dX2_bindsAsTight_18 rfl 1 rfl (x_bipush C dX2_bindsAsTight_19 kb_29 (x_icmp_eq C (tgt := 40) dX2_bindsAsTight_21 (by decide) (fun c => ?_) (fun c => ?_))))
  · have h := ite_t h c
    exact x_iconst C dX2_bindsAsTight_40 kc_1 (x_goto C (tgt := 45) dX2_bindsAsTight_41 (by decide) (x_iret0 E h (retB rfl) dX2_bindsAsTight_45))
  · have h := ite_f h c
    refine x_iload_n C dX2_bindsAsTight_24 rfl 1 rfl (x_bipush C dX2_bindsAsTight_25 kb_30 (x_icmp_eq C (tgt := 40) dX2_bindsAsTight_27 (by decide) (fun c => ?_) (fun c => ?_)))
    · have h := ite_t h c
      exact x_iconst C dX2_bindsAsTight_40 kc_1 (x_goto C (tgt := 45) dX2_bindsAsTight_41 (by decide) (x_iret0 E h (retB rfl) dX2_bindsAsTight_45))
    · have h := ite_f h c
      refine x_iload_n C dX2_bindsAsTight_30 rfl 1 rfl (x_bipush C dX2_bindsAsTight_31 kb_35 (x_icmp_eq C (tgt := 44) dX2_bindsAsTight_33 (by decide) (fun c => ?_) (fun c => ?_)))
      · have h := ite_t h c
        exact x_iconst C dX2_bindsAsTight_44 kc_0 (x_iret0 E h (retB rfl) dX2_bindsAsTight_45)
      · have h := ite_f h c
        refine x_iload_n C dX2_bindsAsTight_36 rfl 0 rfl (x_if_eq C (tgt := 44) dX2_bindsAsTight_37 (by decide) (fun c => ?_) (fun c => ?_))
        · have h := ite_t h c
          exact x_iconst C dX2_bindsAsTight_44 kc_0 (x_iret0 E h (retB rfl) dX2_bindsAsTight_45)
        · have h := ite_f h c
          exact x_iconst C dX2_bindsAsTight_40 kc_1 (x_goto C (tgt := 45) dX2_bindsAsTight_41 (by decide) (x_iret0 E h (retB rfl) dX2_bindsAsTight_45))
set_option maxHeartbeats 4000000 in
theorem w_x2_bindsAsTight_j12 {z : ZT} {ad : AD} {ek : EK} {w : ST → va_W} {lh : Launch} {Dh : va_G} {r : Int32} {S0 : ST} (C : CX z ad ek cX2_bindsAsTight RX2 lh Dh 1 3) (E : EI z w cX2_bindsAsTight (some .boolean) r S0) {l0 : Int32} (h : x2_bindsAsTight_j12 l0 = some r) : XW z w 12 [(0, .int l0)] [] S0 := by
  unfold x2_bindsAsTight_j12 at h
  exact x_iconst C dX2_bindsAsTight_12 kc_1 (x_goto C (tgt := 17) dX2_bindsAsTight_13 (by decide) (w_x2_bindsAsTight_j17 C E h))
set_option maxHeartbeats 4000000 in
theorem c_x2_bindsAsTight {ad : AD} {ek : EK} {lh : Launch} {Dh : va_G} {w : ST → va_W} {S0 : ST} {r : Int32}  {l0 : Int32} {l1 : Int32} (h : x2_bindsAsTight l0 l1 = some r) : MXi lh Dh ad ek w yX2_bindsAsTight cX2_bindsAsTight 3 (some .boolean) 1 [.int l0, .int l1] S0 r S0 := by
  refine mxi_of (by decide) (Nat.le_of_ble_eq_true rfl) (fun z C E => ?_)
  unfold x2_bindsAsTight at h
  refine x_iload_n C dX2_bindsAsTight_0 rfl 1 rfl (x_bipush C dX2_bindsAsTight_1 kb_27 (x_icmp_eq C (tgt := 12) dX2_bindsAsTight_3 (by decide) (fun c => ?_) (fun c => ?_)))
  · have h := ite_t h c
    exact x_perm [0] rfl (w_x2_bindsAsTight_j12 C E h)
  · have h := ite_f h c
    refine x_iload_n C dX2_bindsAsTight_6 rfl 1 rfl (x_bipush C dX2_bindsAsTight_7 kb_28 (x_icmp_ne C (tgt := 16) dX2_bindsAsTight_9 (by decide) (fun c => ?_) (fun c => ?_)))
    · have h := ite_f h c
      exact x_iconst C dX2_bindsAsTight_16 kc_0 (x_perm [0] rfl (w_x2_bindsAsTight_j17 C E h))
    · have h := ite_t h c
      exact x_perm [0] rfl (w_x2_bindsAsTight_j12 C E h)
set_option maxHeartbeats 4000000 in
theorem c_x2_hold {ad : AD} {ek : EK} {lh : Launch} {Dh : va_G} {S' : ST}  {S : ST} {l1 : Int32} (h : x2_hold S l1 = some S') : MXv lh Dh ad ek (cX ad) yX2_hold cX2_hold 2 none 1 [.ref (ad.1 3), .int l1] S S' := by
  refine mxv_of (by decide) (Nat.le_of_ble_eq_true rfl) (fun z C E => ?_)
  unfold x2_hold at h
  refine x_aload_n C dX2_hold_0 rfl 0 rfl (gX_X2_3 C u_1_154 dX2_hold_1 (x_if_lt C (tgt := 39) dX2_hold_4 (by decide) (fun c => ?_) (fun c => ?_)))
  · have h := ite_t h c
    exact x_vret E h dX2_hold_39
  · have h := ite_f h c
    refine x_aload_n C dX2_hold_7 rfl 0 rfl (gX_X2_3 C u_1_154 dX2_hold_8 (x_aload_n C dX2_hold_11 rfl 0 rfl (gX_X2_2 C u_1_153 dX2_hold_12 (x_alen C 25 1 rfl rfl (v := 32) rfl dX2_hold_15 (x_icmp_ge C (tgt := 39) dX2_hold_16 (by decide) (fun c => ?_) (fun c => ?_))))))
    · have h := ite_t h c
      exact x_vret E h dX2_hold_39
    · have h := ite_f h c
      obtain ⟨g28, h⟩ := G_some h
      exact x_aload_n C dX2_hold_19 rfl 0 rfl (gX_X2_2 C u_1_153 dX2_hold_20 (x_aload_n C dX2_hold_23 rfl 0 rfl (gX_X2_3 C u_1_154 dX2_hold_24 (x_iload_n C dX2_hold_27 rfl 1 rfl (sX_25 C g28 dX2_hold_28 (x_aload_n C dX2_hold_29 rfl 0 rfl (x_dup C dX2_hold_30 rfl (gX_X2_3 C u_1_154 dX2_hold_31 (x_iconst C dX2_hold_34 kc_1 (x_iadd C dX2_hold_35 (pX_X2_3 C u_1_154 dX2_hold_36 (x_vret E h dX2_hold_39))))))))))))
set_option maxHeartbeats 4000000 in
theorem c_x2_moveTo {ad : AD} {ek : EK} {lh : Launch} {Dh : va_G} {S' : ST}  {S : ST} {l1 : Int32} (h : x2_moveTo S l1 = some S') : MXv lh Dh ad ek (cX ad) yX2_moveTo cX2_moveTo 2 none 1 [.ref (ad.1 3), .int l1] S S' := by
  refine mxv_of (by decide) (Nat.le_of_ble_eq_true rfl) (fun z C E => ?_)
  unfold x2_moveTo at h
  refine x_aload_n C dX2_moveTo_0 rfl 0 rfl (x_iload_n C dX2_moveTo_1 rfl 1 rfl (pX_X2_4 C u_1_155 dX2_moveTo_2 (x_iload_n C dX2_moveTo_5 rfl 1 rfl (x_if_lt C (tgt := 59) dX2_moveTo_6 (by decide) (fun c => ?_) (fun c => ?_)))))
  · have h := ite_t h c
    exact x_vret E h dX2_moveTo_59
  · have h := ite_f h c
    refine x_iload_n C dX2_moveTo_9 rfl 1 rfl (x_aload_n C dX2_moveTo_10 rfl 0 rfl (gX_X2_1 C u_1_152 dX2_moveTo_11 (gX_X10_3 C u_1_141 dX2_moveTo_14 (x_icmp_ge C (tgt := 59) dX2_moveTo_17 (by decide) (fun c => ?_) (fun c => ?_)))))
    · have h := ite_t h c
      exact x_vret E h dX2_moveTo_59
    · have h := ite_f h c
      obtain ⟨g29, h⟩ := G_some h
      obtain ⟨g42, h⟩ := G_some h
      obtain ⟨g55, h⟩ := G_some h
      exact x_aload_n C dX2_moveTo_20 rfl 0 rfl (x_aload_n C dX2_moveTo_21 rfl 0 rfl (gX_X2_1 C u_1_152 dX2_moveTo_22 (gX_X10_0 C u_1_135 dX2_moveTo_25 (x_iload_n C dX2_moveTo_28 rfl 1 rfl (aX_48 C g29 dX2_moveTo_29 (pX_X2_5 C u_1_156 dX2_moveTo_30 (x_aload_n C dX2_moveTo_33 rfl 0 rfl (x_aload_n C dX2_moveTo_34 rfl 0 rfl (gX_X2_1 C u_1_152 dX2_moveTo_35 (gX_X10_1 C u_1_137 dX2_moveTo_38 (x_iload_n C dX2_moveTo_41 rfl 1 rfl (aX_49 C g42 dX2_moveTo_42 (pX_X2_6 C u_1_157 dX2_moveTo_43 (x_aload_n C dX2_moveTo_46 rfl 0 rfl (x_aload_n C dX2_moveTo_47 rfl 0 rfl (gX_X2_1 C u_1_152 dX2_moveTo_48 (gX_X10_2 C u_1_139 dX2_moveTo_51 (x_iload_n C dX2_moveTo_54 rfl 1 rfl (aX_50 C g55 dX2_moveTo_55 (pX_X2_7 C u_1_158 dX2_moveTo_56 (x_vret E h dX2_moveTo_59)))))))))))))))))))))
set_option maxHeartbeats 4000000 in
theorem c_x2_refuse {ad : AD} {ek : EK} {lh : Launch} {Dh : va_G} {S' : ST}  {S : ST} {l1 : Int32} (h : x2_refuse S l1 = some S') : MXv lh Dh ad ek (cX ad) yX2_refuse cX2_refuse 2 none 1 [.ref (ad.1 3), .int l1] S S' := by
  refine mxv_of (by decide) (Nat.le_of_ble_eq_true rfl) (fun z C E => ?_)
  unfold x2_refuse at h
  refine x_aload_n C dX2_refuse_0 rfl 0 rfl (gX_X2_8 C u_1_159 dX2_refuse_1 (x_if_ne C (tgt := 20) dX2_refuse_4 (by decide) (fun c => ?_) (fun c => ?_)))
  · have h := ite_f h c
    exact x_vret E h dX2_refuse_20
  · have h := ite_t h c
    exact x_aload_n C dX2_refuse_7 rfl 0 rfl (x_iload_n C dX2_refuse_8 rfl 1 rfl (pX_X2_8 C u_1_159 dX2_refuse_9 (x_aload_n C dX2_refuse_12 rfl 0 rfl (x_aload_n C dX2_refuse_13 rfl 0 rfl (gX_X2_6 C u_1_157 dX2_refuse_14 (pX_X2_9 C u_1_160 dX2_refuse_17 (x_vret E h dX2_refuse_20)))))))
set_option maxHeartbeats 4000000 in
theorem c_x3_setVariables {ad : AD} {ek : EK} {lh : Launch} {Dh : va_G} {S' : ST}  {S : ST} {l1 : Int32} {l2 : Int32} (h : x3_setVariables S l1 l2 = some S') : MXv lh Dh ad ek (cX ad) yX3_setVariables cX3_setVariables 3 none 1 [.ref (ad.1 5), .int l1, .int l2] S S' := by
  refine mxv_of (by decide) (Nat.le_of_ble_eq_true rfl) (fun z C E => ?_)
  unfold x3_setVariables at h
  obtain ⟨g9, h⟩ := G_some h
  obtain ⟨g17, h⟩ := G_some h
  obtain ⟨g28, h⟩ := G_some h
  obtain ⟨g36, h⟩ := G_some h
  exact x_aload_n C dX3_setVariables_0 rfl 0 rfl (gX_X3_2 C u_2_10 dX3_setVariables_1 (x_iconst C dX3_setVariables_4 kc_0 (x_aload_n C dX3_setVariables_5 rfl 0 rfl (gX_X3_3 C u_2_12 dX3_setVariables_6 (sX_36 C g9 dX3_setVariables_9 (x_aload_n C dX3_setVariables_10 rfl 0 rfl (gX_X3_2 C u_2_10 dX3_setVariables_11 (x_bipush C dX3_setVariables_14 kb_7 (x_iload_n C dX3_setVariables_16 rfl 1 rfl (sX_36 C g17 dX3_setVariables_17 (x_aload_n C dX3_setVariables_18 rfl 0 rfl (gX_X3_2 C u_2_10 dX3_setVariables_19 (x_bipush C dX3_setVariables_22 kb_8 (x_aload_n C dX3_setVariables_24 rfl 0 rfl (gX_X3_5 C u_2_16 dX3_setVariables_25 (sX_36 C g28 dX3_setVariables_28 (x_aload_n C dX3_setVariables_29 rfl 0 rfl (gX_X3_2 C u_2_10 dX3_setVariables_30 (x_bipush C dX3_setVariables_33 kb_10 (x_iload_n C dX3_setVariables_35 rfl 2 rfl (sX_36 C g36 dX3_setVariables_36 (x_vret E h dX3_setVariables_37))))))))))))))))))))))
set_option maxHeartbeats 4000000 in
theorem w_x4_calculate_j115 {z : ZT} {ad : AD} {ek : EK} {lh : Launch} {Dh : va_G} {S' : ST} (C : CX z ad ek cX4_calculate RX4 lh Dh 1 5) (E : EV z (cX ad) cX4_calculate S') {S : ST} {l4 : Int32} (h : x4_calculate_j115 S l4 = some S') : XW z (cX ad) 115 [(0, .ref (ad.1 10)), (4, .int l4)] [] S := by
  unfold x4_calculate_j115 at h
  obtain ⟨g127, h⟩ := G_some h
  exact x_aload_n C dX4_calculate_115 rfl 0 rfl (gX_X4_0 C u_1_57 dX4_calculate_116 (x_aload_n C dX4_calculate_119 rfl 0 rfl (gX_X4_1 C u_1_58 dX4_calculate_120 (x_iconst C dX4_calculate_123 kc_1 (x_isub C dX4_calculate_124 (x_iload C dX4_calculate_125 1 rfl (sX_47 C g127 dX4_calculate_127 (x_vret E h dX4_calculate_128))))))))
set_option maxHeartbeats 4000000 in
theorem c_x4_calculate {ad : AD} {ek : EK} {lh : Launch} {Dh : va_G} {S' : ST}  {S : ST} {l1 : Int32} (h : x4_calculate S l1 = some S') : MXv lh Dh ad ek (cX ad) yX4_calculate cX4_calculate 5 none 1 [.ref (ad.1 10), .int l1] S S' := by
  refine mxv_of (by decide) (Nat.le_of_ble_eq_true rfl) (fun z C E => ?_)
  unfold x4_calculate at h
  refine x_aload_n C dX4_calculate_0 rfl 0 rfl (gX_X4_1 C u_1_58 dX4_calculate_1 (x_iconst C dX4_calculate_4 kc_2 (x_icmp_lt C (tgt := 20) dX4_calculate_5 (by decide) (fun c => ?_) (fun c => ?_))))
  · have h := ite_t h c
    exact x_vret E h dX4_calculate_20
  · have h := ite_f h c
    refine x_aload_n C dX4_calculate_8 rfl 0 rfl (gX_X4_1 C u_1_58 dX4_calculate_9 (x_aload_n C dX4_calculate_12 rfl 0 rfl (gX_X4_0 C u_1_57 dX4_calculate_13 (x_alen C 47 1 rfl rfl (v := 32) rfl dX4_calculate_16 (x_icmp_le C (tgt := 21) dX4_calculate_17 (by decide) (fun c => ?_) (fun c => ?_))))))
    · have h := ite_t h c
      obtain ⟨g41, h⟩ := G_some h
      obtain ⟨g51, h⟩ := G_some h
      refine x_aload_n C dX4_calculate_21 rfl 0 rfl (x_dup C dX4_calculate_22 rfl (gX_X4_1 C u_1_58 dX4_calculate_23 (x_iconst C dX4_calculate_26 kc_1 (x_isub C dX4_calculate_27 (pX_X4_1 C u_1_58 dX4_calculate_28 (x_aload_n C dX4_calculate_31 rfl 0 rfl (gX_X4_0 C u_1_57 dX4_calculate_32 (x_aload_n C dX4_calculate_35 rfl 0 rfl (gX_X4_1 C u_1_58 dX4_calculate_36 (x_iconst C dX4_calculate_39 kc_1 (x_isub C dX4_calculate_40 (aX_47 C g41 dX4_calculate_41 (x_istore_n C dX4_calculate_42 rfl (by decide) rfl (x_aload_n C dX4_calculate_43 rfl 1 rfl (gX_X4_0 C u_1_57 dX4_calculate_44 (x_aload_n C dX4_calculate_47 rfl 1 rfl (gX_X4_1 C u_1_58 dX4_calculate_48 (aX_47 C g51 dX4_calculate_51 (x_istore_n C dX4_calculate_52 rfl (by decide) rfl (x_iconst C dX4_calculate_53 kc_0 (x_istore C dX4_calculate_54 (by decide) rfl (x_iload_n C dX4_calculate_56 rfl 4 rfl (x_bipush C dX4_calculate_57 kb_27 (x_icmp_ne C (tgt := 70) dX4_calculate_59 (by decide) (fun c => ?_) (fun c => ?_)))))))))))))))))))))))))
      · have h := ite_f h c
        refine x_iload_n C dX4_calculate_70 rfl 4 rfl (x_bipush C dX4_calculate_71 kb_28 (x_icmp_ne C (tgt := 84) dX4_calculate_73 (by decide) (fun c => ?_) (fun c => ?_)))
        · have h := ite_f h c
          refine x_iload_n C dX4_calculate_84 rfl 4 rfl (x_bipush C dX4_calculate_85 kb_29 (x_icmp_ne C (tgt := 98) dX4_calculate_87 (by decide) (fun c => ?_) (fun c => ?_)))
          · have h := ite_f h c
            refine x_iload_n C dX4_calculate_98 rfl 1 rfl (x_if_eq C (tgt := 110) dX4_calculate_99 (by decide) (fun c => ?_) (fun c => ?_))
            · have h := ite_t h c
              obtain ⟨g112, h⟩ := G_some h
              exact x_aload_n C dX4_calculate_110 rfl 3 rfl (x_iconst C dX4_calculate_111 kc_1 (pX_X4_2 C u_1_59 g112 dX4_calculate_112 (x_perm [3, 0] rfl (w_x4_calculate_j115 C E h))))
            · have h := ite_f h c
              obtain ⟨g104, h⟩ := G_some h
              exact x_iload_n C dX4_calculate_102 rfl 2 rfl (x_iload_n C dX4_calculate_103 rfl 1 rfl (x_idiv C dX4_calculate_104 (of_decide_eq_true g104) (x_istore C dX4_calculate_105 (by decide) rfl (x_goto C (tgt := 115) dX4_calculate_107 (by decide) (x_perm [3, 0] rfl (w_x4_calculate_j115 C E h))))))
          · have h := ite_t h c
            exact x_iload_n C dX4_calculate_90 rfl 2 rfl (x_iload_n C dX4_calculate_91 rfl 1 rfl (x_imul C dX4_calculate_92 (x_istore C dX4_calculate_93 (by decide) rfl (x_goto C (tgt := 115) dX4_calculate_95 (by decide) (x_perm [3, 0] rfl (w_x4_calculate_j115 C E h))))))
        · have h := ite_t h c
          exact x_iload_n C dX4_calculate_76 rfl 2 rfl (x_iload_n C dX4_calculate_77 rfl 1 rfl (x_isub C dX4_calculate_78 (x_istore C dX4_calculate_79 (by decide) rfl (x_goto C (tgt := 115) dX4_calculate_81 (by decide) (x_perm [3, 0] rfl (w_x4_calculate_j115 C E h))))))
      · have h := ite_t h c
        exact x_iload_n C dX4_calculate_62 rfl 2 rfl (x_iload_n C dX4_calculate_63 rfl 1 rfl (x_iadd C dX4_calculate_64 (x_istore C dX4_calculate_65 (by decide) rfl (x_goto C (tgt := 115) dX4_calculate_67 (by decide) (x_perm [3, 0] rfl (w_x4_calculate_j115 C E h))))))
    · have h := ite_f h c
      exact x_vret E h dX4_calculate_20
set_option maxHeartbeats 4000000 in
theorem c_x4_push {ad : AD} {ek : EK} {lh : Launch} {Dh : va_G} {S' : ST}  {S : ST} {l1 : Int32} (h : x4_push S l1 = some S') : MXv lh Dh ad ek (cX ad) yX4_push cX4_push 2 none 1 [.ref (ad.1 10), .int l1] S S' := by
  refine mxv_of (by decide) (Nat.le_of_ble_eq_true rfl) (fun z C E => ?_)
  unfold x4_push at h
  refine x_aload_n C dX4_push_0 rfl 0 rfl (gX_X4_1 C u_1_58 dX4_push_1 (x_if_lt C (tgt := 39) dX4_push_4 (by decide) (fun c => ?_) (fun c => ?_)))
  · have h := ite_t h c
    exact x_vret E h dX4_push_39
  · have h := ite_f h c
    refine x_aload_n C dX4_push_7 rfl 0 rfl (gX_X4_1 C u_1_58 dX4_push_8 (x_aload_n C dX4_push_11 rfl 0 rfl (gX_X4_0 C u_1_57 dX4_push_12 (x_alen C 47 1 rfl rfl (v := 32) rfl dX4_push_15 (x_icmp_ge C (tgt := 39) dX4_push_16 (by decide) (fun c => ?_) (fun c => ?_))))))
    · have h := ite_t h c
      exact x_vret E h dX4_push_39
    · have h := ite_f h c
      obtain ⟨g28, h⟩ := G_some h
      exact x_aload_n C dX4_push_19 rfl 0 rfl (gX_X4_0 C u_1_57 dX4_push_20 (x_aload_n C dX4_push_23 rfl 0 rfl (gX_X4_1 C u_1_58 dX4_push_24 (x_iload_n C dX4_push_27 rfl 1 rfl (sX_47 C g28 dX4_push_28 (x_aload_n C dX4_push_29 rfl 0 rfl (x_dup C dX4_push_30 rfl (gX_X4_1 C u_1_58 dX4_push_31 (x_iconst C dX4_push_34 kc_1 (x_iadd C dX4_push_35 (pX_X4_1 C u_1_58 dX4_push_36 (x_vret E h dX4_push_39))))))))))))
set_option maxHeartbeats 4000000 in
theorem c_x4_result {ad : AD} {ek : EK} {lh : Launch} {Dh : va_G} {r : Int32} {S' : ST}  {S : ST} (h : x4_result S = some (r, S')) : MXi lh Dh ad ek (cX ad) yX4_result cX4_result 1 (some .int) 1 [.ref (ad.1 10)] S r S' := by
  refine mxi_of (by decide) (Nat.le_of_ble_eq_true rfl) (fun z C E => ?_)
  unfold x4_result at h
  refine x_aload_n C dX4_result_0 rfl 0 rfl (gX_X4_1 C u_1_58 dX4_result_1 (x_iconst C dX4_result_4 kc_1 (x_icmp_ne C (tgt := 24) dX4_result_5 (by decide) (fun c => ?_) (fun c => ?_))))
  · have h := ite_f h c
    exact x_iconst C dX4_result_24 kc_0 (x_iret E h retI dX4_result_25)
  · have h := ite_t h c
    refine x_aload_n C dX4_result_8 rfl 0 rfl (gX_X4_2 C u_1_59 dX4_result_9 (x_if_ne C (tgt := 24) dX4_result_12 (by decide) (fun c => ?_) (fun c => ?_)))
    · have h := ite_f h c
      exact x_iconst C dX4_result_24 kc_0 (x_iret E h retI dX4_result_25)
    · have h := ite_t h c
      obtain ⟨g20, h⟩ := G_some h
      exact x_aload_n C dX4_result_15 rfl 0 rfl (gX_X4_0 C u_1_57 dX4_result_16 (x_iconst C dX4_result_19 kc_0 (aX_47 C g20 dX4_result_20 (x_goto C (tgt := 25) dX4_result_21 (by decide) (x_iret E h retI dX4_result_25)))))
set_option maxHeartbeats 4000000 in
theorem c_x6_setReporter {ad : AD} {ek : EK} {lh : Launch} {Dh : va_G} {S' : ST}  {S : ST} {l1 : Int32} {l2 : Int32} {l3 : Int32} (h : x6_setReporter S l1 l2 l3 = some S') : MXv lh Dh ad ek (cX ad) yX6_setReporter cX6_setReporter 4 none 1 [.ref (ad.1 9), .int l1, .int l2, .int l3] S S' := by
  refine mxv_of (by decide) (Nat.le_of_ble_eq_true rfl) (fun z C E => ?_)
  unfold x6_setReporter at h
  refine x_iload_n C dX6_setReporter_0 rfl 1 rfl (x_if_lt C (tgt := 23) dX6_setReporter_1 (by decide) (fun c => ?_) (fun c => ?_))
  · have h := ite_t h c
    exact x_vret E h dX6_setReporter_23
  · have h := ite_f h c
    refine x_iload_n C dX6_setReporter_4 rfl 1 rfl (x_iconst C dX6_setReporter_5 kc_4 (x_icmp_ge C (tgt := 23) dX6_setReporter_6 (by decide) (fun c => ?_) (fun c => ?_)))
    · have h := ite_t h c
      exact x_vret E h dX6_setReporter_23
    · have h := ite_f h c
      obtain ⟨g15, h⟩ := G_some h
      obtain ⟨g22, h⟩ := G_some h
      exact x_aload_n C dX6_setReporter_9 rfl 0 rfl (gX_X6_0 C u_2_108 dX6_setReporter_10 (x_iload_n C dX6_setReporter_13 rfl 1 rfl (x_iload_n C dX6_setReporter_14 rfl 2 rfl (sX_42 C g15 dX6_setReporter_15 (x_aload_n C dX6_setReporter_16 rfl 0 rfl (gX_X6_1 C u_2_109 dX6_setReporter_17 (x_iload_n C dX6_setReporter_20 rfl 1 rfl (x_iload_n C dX6_setReporter_21 rfl 3 rfl (sX_43 C g22 dX6_setReporter_22 (x_vret E h dX6_setReporter_23))))))))))
set_option maxHeartbeats 4000000 in
theorem c_x6_taker {ad : AD} {ek : EK} {lh : Launch} {Dh : va_G} {r : Int32} {S' : ST}  {S : ST} {l1 : Int32} (h : x6_taker S l1 = some (r, S')) : MXi lh Dh ad ek (cX ad) yX6_taker cX6_taker 2 (some .int) 1 [.ref (ad.1 9), .int l1] S r S' := by
  refine mxi_of (by decide) (Nat.le_of_ble_eq_true rfl) (fun z C E => ?_)
  unfold x6_taker at h
  refine x_iload_n C dX6_taker_0 rfl 1 rfl (x_if_lt C (tgt := 27) dX6_taker_1 (by decide) (fun c => ?_) (fun c => ?_))
  · have h := ite_t h c
    exact x_iconst C dX6_taker_27 kc_m1 (x_iret E h retI dX6_taker_28)
  · have h := ite_f h c
    refine x_iload_n C dX6_taker_4 rfl 1 rfl (x_aload_n C dX6_taker_5 rfl 0 rfl (gX_X6_9 C u_2_117 dX6_taker_6 (x_icmp_ge C (tgt := 27) dX6_taker_9 (by decide) (fun c => ?_) (fun c => ?_))))
    · have h := ite_t h c
      exact x_iconst C dX6_taker_27 kc_m1 (x_iret E h retI dX6_taker_28)
    · have h := ite_f h c
      refine x_iload_n C dX6_taker_12 rfl 1 rfl (x_bipush C dX6_taker_13 kb_8 (x_icmp_ge C (tgt := 27) dX6_taker_15 (by decide) (fun c => ?_) (fun c => ?_)))
      · have h := ite_t h c
        exact x_iconst C dX6_taker_27 kc_m1 (x_iret E h retI dX6_taker_28)
      · have h := ite_f h c
        obtain ⟨g23, h⟩ := G_some h
        exact x_aload_n C dX6_taker_18 rfl 0 rfl (gX_X6_4 C u_2_112 dX6_taker_19 (x_iload_n C dX6_taker_22 rfl 1 rfl (aX_46 C g23 dX6_taker_23 (x_goto C (tgt := 28) dX6_taker_24 (by decide) (x_iret E h retI dX6_taker_28)))))
set_option maxHeartbeats 4000000 in
theorem c_x7_beginCondition {ad : AD} {ek : EK} {lh : Launch} {Dh : va_G} {S' : ST}  {S : ST} (h : x7_beginCondition S = some S') : MXv lh Dh ad ek (cX ad) yX7_beginCondition cX7_beginCondition 1 none 1 [.ref (ad.1 2)] S S' := by
  refine mxv_of (by decide) (Nat.le_of_ble_eq_true rfl) (fun z C E => ?_)
  unfold x7_beginCondition at h
  refine x_aload_n C dX7_beginCondition_0 rfl 0 rfl (gX_X7_14 C u_1_86 dX7_beginCondition_1 (x_if_lt C (tgt := 30) dX7_beginCondition_4 (by decide) (fun c => ?_) (fun c => ?_)))
  · have h := ite_t h c
    exact x_vret E h dX7_beginCondition_30
  · have h := ite_f h c
    refine x_aload_n C dX7_beginCondition_7 rfl 0 rfl (gX_X7_14 C u_1_86 dX7_beginCondition_8 (x_sipush C dX7_beginCondition_11 ks_144 (x_icmp_ge C (tgt := 30) dX7_beginCondition_14 (by decide) (fun c => ?_) (fun c => ?_))))
    · have h := ite_t h c
      exact x_vret E h dX7_beginCondition_30
    · have h := ite_f h c
      obtain ⟨g29, h⟩ := G_some h
      exact x_aload_n C dX7_beginCondition_17 rfl 0 rfl (gX_X7_6 C u_1_78 dX7_beginCondition_18 (x_aload_n C dX7_beginCondition_21 rfl 0 rfl (gX_X7_14 C u_1_86 dX7_beginCondition_22 (x_aload_n C dX7_beginCondition_25 rfl 0 rfl (gX_X7_13 C u_1_85 dX7_beginCondition_26 (sX_19 C g29 dX7_beginCondition_29 (x_vret E h dX7_beginCondition_30)))))))
set_option maxHeartbeats 4000000 in
theorem c_x7_closeRule {ad : AD} {ek : EK} {lh : Launch} {Dh : va_G} {S' : ST}  {S : ST} (h : x7_closeRule S = some S') : MXv lh Dh ad ek (cX ad) yX7_closeRule cX7_closeRule 1 none 1 [.ref (ad.1 2)] S S' := by
  refine mxv_of (by decide) (Nat.le_of_ble_eq_true rfl) (fun z C E => ?_)
  unfold x7_closeRule at h
  refine x_aload_n C dX7_closeRule_0 rfl 0 rfl (gX_X7_14 C u_1_86 dX7_closeRule_1 (x_if_lt C (tgt := 40) dX7_closeRule_4 (by decide) (fun c => ?_) (fun c => ?_)))
  · have h := ite_t h c
    exact x_vret E h dX7_closeRule_40
  · have h := ite_f h c
    refine x_aload_n C dX7_closeRule_7 rfl 0 rfl (gX_X7_14 C u_1_86 dX7_closeRule_8 (x_sipush C dX7_closeRule_11 ks_144 (x_icmp_ge C (tgt := 40) dX7_closeRule_14 (by decide) (fun c => ?_) (fun c => ?_))))
    · have h := ite_t h c
      exact x_vret E h dX7_closeRule_40
    · have h := ite_f h c
      obtain ⟨g29, h⟩ := G_some h
      exact x_aload_n C dX7_closeRule_17 rfl 0 rfl (gX_X7_7 C u_1_79 dX7_closeRule_18 (x_aload_n C dX7_closeRule_21 rfl 0 rfl (gX_X7_14 C u_1_86 dX7_closeRule_22 (x_aload_n C dX7_closeRule_25 rfl 0 rfl (gX_X7_13 C u_1_85 dX7_closeRule_26 (sX_20 C g29 dX7_closeRule_29 (x_aload_n C dX7_closeRule_30 rfl 0 rfl (x_dup C dX7_closeRule_31 rfl (gX_X7_14 C u_1_86 dX7_closeRule_32 (x_iconst C dX7_closeRule_35 kc_1 (x_iadd C dX7_closeRule_36 (pX_X7_14 C u_1_86 dX7_closeRule_37 (x_vret E h dX7_closeRule_40)))))))))))))
set_option maxHeartbeats 4000000 in
theorem c_x7_emit {ad : AD} {ek : EK} {lh : Launch} {Dh : va_G} {S' : ST}  {S : ST} {l1 : Int32} (h : x7_emit S l1 = some S') : MXv lh Dh ad ek (cX ad) yX7_emit cX7_emit 2 none 1 [.ref (ad.1 2), .int l1] S S' := by
  refine mxv_of (by decide) (Nat.le_of_ble_eq_true rfl) (fun z C E => ?_)
  unfold x7_emit at h
  refine x_aload_n C dX7_emit_0 rfl 0 rfl (gX_X7_13 C u_1_85 dX7_emit_1 (x_if_lt C (tgt := 37) dX7_emit_4 (by decide) (fun c => ?_) (fun c => ?_)))
  · have h := ite_t h c
    exact x_vret E h dX7_emit_37
  · have h := ite_f h c
    refine x_aload_n C dX7_emit_7 rfl 0 rfl (gX_X7_13 C u_1_85 dX7_emit_8 (x_sipush C dX7_emit_11 ks_2400 (x_icmp_ge C (tgt := 37) dX7_emit_14 (by decide) (fun c => ?_) (fun c => ?_))))
    · have h := ite_t h c
      exact x_vret E h dX7_emit_37
    · have h := ite_f h c
      obtain ⟨g26, h⟩ := G_some h
      exact x_aload_n C dX7_emit_17 rfl 0 rfl (gX_X7_0 C u_1_69 dX7_emit_18 (x_aload_n C dX7_emit_21 rfl 0 rfl (gX_X7_13 C u_1_85 dX7_emit_22 (x_iload_n C dX7_emit_25 rfl 1 rfl (sX_13 C g26 dX7_emit_26 (x_aload_n C dX7_emit_27 rfl 0 rfl (x_dup C dX7_emit_28 rfl (gX_X7_13 C u_1_85 dX7_emit_29 (x_iconst C dX7_emit_32 kc_1 (x_iadd C dX7_emit_33 (pX_X7_13 C u_1_85 dX7_emit_34 (x_vret E h dX7_emit_37))))))))))))
set_option maxHeartbeats 4000000 in
theorem w_x7_levelOn_j25 {z : ZT} {ad : AD} {ek : EK} {lh : Launch} {Dh : va_G} {r : Int32} {S' : ST} (C : CX z ad ek cX7_levelOn RX7 lh Dh 1 4) (E : EI z (cX ad) cX7_levelOn (some .int) r S') {Kb : ST → Int32 → Int32 → Int32 → Option (Int32 × ST)} (hKb : ∀ (S : ST) (l1 : Int32) (l2 : Int32) (l3 : Int32) , Kb S l1 l2 l3 = some (r, S') → XW z (cX ad) 4 [(0, .ref (ad.1 2)), (1, .int l1), (2, .int l2), (3, .int l3)] [] S) {S : ST} {l1 : Int32} {l2 : Int32} {l3 : Int32} (h : x7_levelOn_j25 Kb S l1 l2 l3 = some (r, S')) : XW z (cX ad) 25 [(0, .ref (ad.1 2)), (1, .int l1), (2, .int l2), (3, .int l3)] [] S := by
  unfold x7_levelOn_j25 at h
  exact x_iinc C dX7_levelOn_25 3 rfl ki_1 (by decide) rfl (x_goto C (tgt := 4) dX7_levelOn_28 (by decide) (x_perm [1, 2, 3, 0] rfl (hKb _ _ _ _ h)))
set_option maxHeartbeats 4000000 in
theorem w_x7_levelOn_h4 {z : ZT} {ad : AD} {ek : EK} {lh : Launch} {Dh : va_G} {r : Int32} {S' : ST} (C : CX z ad ek cX7_levelOn RX7 lh Dh 1 4) (E : EI z (cX ad) cX7_levelOn (some .int) r S') : ∀ (n : Nat) (S : ST) (l1 : Int32) (l2 : Int32) (l3 : Int32), x7_levelOn_h4 n S l1 l2 l3 = some (r, S') → XW z (cX ad) 4 [(0, .ref (ad.1 2)), (1, .int l1), (2, .int l2), (3, .int l3)] [] S := by
  intro n
  induction n with
  | zero => intro S l1 l2 l3 h; cases h
  | succ n ih =>
    intro S l1 l2 l3 h
    have hKb := ih
    refine x_iload_n C dX7_levelOn_4 rfl 3 rfl (x_aload_n C dX7_levelOn_5 rfl 0 rfl (gX_X7_15 C u_1_87 dX7_levelOn_6 (x_icmp_ge C (tgt := 31) dX7_levelOn_9 (by decide) (fun c => ?_) (fun c => ?_))))
    · have h := ite_t h c
      exact (by
        exact x_iload_n C dX7_levelOn_31 rfl 2 rfl (x_iret E h retI dX7_levelOn_32))
    · have h := ite_f h c
      obtain ⟨g17, h⟩ := G_some h
      refine x_aload_n C dX7_levelOn_12 rfl 0 rfl (gX_X7_8 C u_1_80 dX7_levelOn_13 (x_iload_n C dX7_levelOn_16 rfl 3 rfl (aX_21 C g17 dX7_levelOn_17 (x_iload_n C dX7_levelOn_18 rfl 1 rfl (x_icmp_gt C (tgt := 25) dX7_levelOn_19 (by decide) (fun c => ?_) (fun c => ?_))))))
      · have h := ite_t h c
        exact w_x7_levelOn_j25 C E hKb h
      · have h := ite_f h c
        exact x_iinc C dX7_levelOn_22 2 rfl ki_1 (by decide) rfl (x_perm [1, 2, 0, 3] rfl (w_x7_levelOn_j25 C E hKb h))
set_option maxHeartbeats 4000000 in
theorem c_x7_levelOn {ad : AD} {ek : EK} {lh : Launch} {Dh : va_G} {r : Int32} {S' : ST}  {S : ST} {l1 : Int32} (h : x7_levelOn S l1 = some (r, S')) : MXi lh Dh ad ek (cX ad) yX7_levelOn cX7_levelOn 4 (some .int) 1 [.ref (ad.1 2), .int l1] S r S' := by
  refine mxi_of (by decide) (Nat.le_of_ble_eq_true rfl) (fun z C E => ?_)
  unfold x7_levelOn at h
  exact x_iconst C dX7_levelOn_0 kc_0 (x_istore_n C dX7_levelOn_1 rfl (by decide) rfl (x_iconst C dX7_levelOn_2 kc_0 (x_istore_n C dX7_levelOn_3 rfl (by decide) rfl (x_perm [2, 3, 1, 0] rfl (w_x7_levelOn_h4 C E FU _ _ _ _ h)))))
set_option maxHeartbeats 4000000 in
theorem w_x7_namedInForce_h3 {z : ZT} {ad : AD} {ek : EK} {lh : Launch} {Dh : va_G} {r : Int32} {S' : ST} (C : CX z ad ek cX7_namedInForce RX7 lh Dh 1 5) (E : EI z (cX ad) cX7_namedInForce (some .int) r S') : ∀ (n : Nat) (S : ST) (l1 : Int32) (l2 : Int64) (l4 : Int32), x7_namedInForce_h3 n S l1 l2 l4 = some (r, S') → XW z (cX ad) 3 [(0, .ref (ad.1 2)), (1, .int l1), (2, .long l2), (4, .int l4)] [] S := by
  intro n
  induction n with
  | zero => intro S l1 l2 l4 h; cases h
  | succ n ih =>
    intro S l1 l2 l4 h
    have hKb := ih
    obtain ⟨g10, h⟩ := G_some h
    refine x_iload C dX7_namedInForce_3 3 rfl (x_aload_n C dX7_namedInForce_5 rfl 0 rfl (gX_X7_11 C u_1_83 dX7_namedInForce_6 (x_iload_n C dX7_namedInForce_9 rfl 1 rfl (aX_24 C g10 dX7_namedInForce_10 (x_icmp_ge C (tgt := 46) dX7_namedInForce_11 (by decide) (fun c => ?_) (fun c => ?_))))))
    · have h := ite_t h c
      exact (by
        exact x_iconst C dX7_namedInForce_46 kc_m1 (x_iret E h retI dX7_namedInForce_47))
    · have h := ite_f h c
      obtain ⟨g30, h⟩ := G_some h
      obtain ⟨g31, h⟩ := G_some h
      refine x_aload_n C dX7_namedInForce_14 rfl 0 rfl (gX_X7_2 C u_1_72 dX7_namedInForce_15 (x_aload_n C dX7_namedInForce_18 rfl 0 rfl (gX_X7_10 C u_1_82 dX7_namedInForce_19 (x_iload_n C dX7_namedInForce_22 rfl 1 rfl (x_sipush C dX7_namedInForce_23 ks_144 (x_imul C dX7_namedInForce_26 (x_iload C dX7_namedInForce_27 3 rfl (x_iadd C dX7_namedInForce_29 (aX_23 C g30 dX7_namedInForce_30 (aX_15 C g31 dX7_namedInForce_31 (x_lload_n C dX7_namedInForce_32 rfl 2 rfl (x_lcmp C dX7_namedInForce_33 (x_if_ne C (tgt := 40) dX7_namedInForce_34 (by decide) (fun c => ?_) (fun c => ?_))))))))))))))
      · have h := ite_f h c
        exact x_iinc C dX7_namedInForce_40 3 rfl ki_1 (by decide) rfl (x_goto C (tgt := 3) dX7_namedInForce_43 (by decide) (x_perm [1, 2, 3, 0] rfl (hKb _ _ _ _ h)))
      · have h := ite_t h c
        exact (by
          exact x_iload C dX7_namedInForce_37 3 rfl (x_iret E h retI dX7_namedInForce_39))
set_option maxHeartbeats 4000000 in
theorem c_x7_namedInForce {ad : AD} {ek : EK} {lh : Launch} {Dh : va_G} {r : Int32} {S' : ST}  {S : ST} {l1 : Int32} {l2 : Int64} (h : x7_namedInForce S l1 l2 = some (r, S')) : MXi lh Dh ad ek (cX ad) yX7_namedInForce cX7_namedInForce 5 (some .int) 1 [.ref (ad.1 2), .int l1, .long l2] S r S' := by
  refine mxi_of (by decide) (Nat.le_of_ble_eq_true rfl) (fun z C E => ?_)
  unfold x7_namedInForce at h
  exact x_iconst C dX7_namedInForce_0 kc_0 (x_istore C dX7_namedInForce_1 (by decide) rfl (x_perm [1, 2, 3, 0] rfl (w_x7_namedInForce_h3 C E FU _ _ _ _ h)))
set_option maxHeartbeats 4000000 in
theorem c_x7_openRule {ad : AD} {ek : EK} {lh : Launch} {Dh : va_G} {S' : ST}  {S : ST} {l1 : Int32} {l2 : Int64} {l4 : Int32} (h : x7_openRule S l1 l2 l4 = some S') : MXv lh Dh ad ek (cX ad) yX7_openRule cX7_openRule 5 none 1 [.ref (ad.1 2), .int l1, .long l2, .int l4] S S' := by
  refine mxv_of (by decide) (Nat.le_of_ble_eq_true rfl) (fun z C E => ?_)
  unfold x7_openRule at h
  refine x_aload_n C dX7_openRule_0 rfl 0 rfl (gX_X7_14 C u_1_86 dX7_openRule_1 (x_if_lt C (tgt := 17) dX7_openRule_4 (by decide) (fun c => ?_) (fun c => ?_)))
  · have h := ite_t h c
    exact x_vret E h dX7_openRule_17
  · have h := ite_f h c
    refine x_aload_n C dX7_openRule_7 rfl 0 rfl (gX_X7_14 C u_1_86 dX7_openRule_8 (x_sipush C dX7_openRule_11 ks_144 (x_icmp_lt C (tgt := 18) dX7_openRule_14 (by decide) (fun c => ?_) (fun c => ?_))))
    · have h := ite_t h c
      obtain ⟨g27, h⟩ := G_some h
      obtain ⟨g37, h⟩ := G_some h
      obtain ⟨g50, h⟩ := G_some h
      obtain ⟨g61, h⟩ := G_some h
      obtain ⟨g74, h⟩ := G_some h
      obtain ⟨g87, h⟩ := G_some h
      exact x_aload_n C dX7_openRule_18 rfl 0 rfl (gX_X7_1 C u_1_70 dX7_openRule_19 (x_aload_n C dX7_openRule_22 rfl 0 rfl (gX_X7_14 C u_1_86 dX7_openRule_23 (x_iload_n C dX7_openRule_26 rfl 1 rfl (sX_14 C g27 dX7_openRule_27 (x_aload_n C dX7_openRule_28 rfl 0 rfl (gX_X7_2 C u_1_72 dX7_openRule_29 (x_aload_n C dX7_openRule_32 rfl 0 rfl (gX_X7_14 C u_1_86 dX7_openRule_33 (x_lload_n C dX7_openRule_36 rfl 2 rfl (sX_15 C g37 dX7_openRule_37 (x_aload_n C dX7_openRule_38 rfl 0 rfl (gX_X7_3 C u_1_73 dX7_openRule_39 (x_aload_n C dX7_openRule_42 rfl 0 rfl (gX_X7_14 C u_1_86 dX7_openRule_43 (x_aload_n C dX7_openRule_46 rfl 0 rfl (gX_X7_15 C u_1_87 dX7_openRule_47 (sX_16 C g50 dX7_openRule_50 (x_aload_n C dX7_openRule_51 rfl 0 rfl (gX_X7_4 C u_1_75 dX7_openRule_52 (x_aload_n C dX7_openRule_55 rfl 0 rfl (gX_X7_14 C u_1_86 dX7_openRule_56 (x_iload C dX7_openRule_59 3 rfl (sX_17 C g61 dX7_openRule_61 (x_aload_n C dX7_openRule_62 rfl 0 rfl (gX_X7_5 C u_1_77 dX7_openRule_63 (x_aload_n C dX7_openRule_66 rfl 0 rfl (gX_X7_14 C u_1_86 dX7_openRule_67 (x_aload_n C dX7_openRule_70 rfl 0 rfl (gX_X7_13 C u_1_85 dX7_openRule_71 (sX_18 C g74 dX7_openRule_74 (x_aload_n C dX7_openRule_75 rfl 0 rfl (gX_X7_6 C u_1_78 dX7_openRule_76 (x_aload_n C dX7_openRule_79 rfl 0 rfl (gX_X7_14 C u_1_86 dX7_openRule_80 (x_aload_n C dX7_openRule_83 rfl 0 rfl (gX_X7_13 C u_1_85 dX7_openRule_84 (sX_19 C g87 dX7_openRule_87 (x_vret E h dX7_openRule_88)))))))))))))))))))))))))))))))))))))))
    · have h := ite_f h c
      exact x_vret E h dX7_openRule_17
set_option maxHeartbeats 4000000 in
theorem w_x7_openText_j32 {z : ZT} {ad : AD} {ek : EK} {lh : Launch} {Dh : va_G} {S' : ST} (C : CX z ad ek cX7_openText RX7 lh Dh 1 1) (E : EV z (cX ad) cX7_openText S') {S : ST} {s0 : Int32} (h : x7_openText_j32 S s0 = some S') : XW z (cX ad) 32 [(0, .ref (ad.1 2))] [.int s0, .ref (ad.1 2)] S := by
  unfold x7_openText_j32 at h
  refine pX_X7_14 C u_1_86 dX7_openText_32 (x_aload_n C dX7_openText_35 rfl 0 rfl (x_aload_n C dX7_openText_36 rfl 0 rfl (gX_X7_14 C u_1_86 dX7_openText_37 (x_if_le C (tgt := 67) dX7_openText_40 (by decide) (fun c => ?_) (fun c => ?_)))))
  · have h := ite_t h c
    exact x_iconst C dX7_openText_67 kc_0 (pX_X7_13 C u_1_85 dX7_openText_68 (x_vret E h dX7_openText_71))
  · have h := ite_f h c
    refine x_aload_n C dX7_openText_43 rfl 0 rfl (gX_X7_14 C u_1_86 dX7_openText_44 (x_sipush C dX7_openText_47 ks_144 (x_icmp_gt C (tgt := 67) dX7_openText_50 (by decide) (fun c => ?_) (fun c => ?_))))
    · have h := ite_t h c
      exact x_iconst C dX7_openText_67 kc_0 (pX_X7_13 C u_1_85 dX7_openText_68 (x_vret E h dX7_openText_71))
    · have h := ite_f h c
      obtain ⟨g63, h⟩ := G_some h
      exact x_aload_n C dX7_openText_53 rfl 0 rfl (gX_X7_7 C u_1_79 dX7_openText_54 (x_aload_n C dX7_openText_57 rfl 0 rfl (gX_X7_14 C u_1_86 dX7_openText_58 (x_iconst C dX7_openText_61 kc_1 (x_isub C dX7_openText_62 (aX_20 C g63 dX7_openText_63 (x_goto C (tgt := 68) dX7_openText_64 (by decide) (pX_X7_13 C u_1_85 dX7_openText_68 (x_vret E h dX7_openText_71)))))))))
set_option maxHeartbeats 4000000 in
theorem w_x7_openText_j31 {z : ZT} {ad : AD} {ek : EK} {lh : Launch} {Dh : va_G} {S' : ST} (C : CX z ad ek cX7_openText RX7 lh Dh 1 1) (E : EV z (cX ad) cX7_openText S') {S : ST} (h : x7_openText_j31 S = some S') : XW z (cX ad) 31 [(0, .ref (ad.1 2))] [.ref (ad.1 2)] S := by
  unfold x7_openText_j31 at h
  exact x_iconst C dX7_openText_31 kc_0 (w_x7_openText_j32 C E h)
set_option maxHeartbeats 4000000 in
theorem c_x7_openText {ad : AD} {ek : EK} {lh : Launch} {Dh : va_G} {S' : ST}  {S : ST} (h : x7_openText S = some S') : MXv lh Dh ad ek (cX ad) yX7_openText cX7_openText 1 none 1 [.ref (ad.1 2)] S S' := by
  refine mxv_of (by decide) (Nat.le_of_ble_eq_true rfl) (fun z C E => ?_)
  unfold x7_openText at h
  refine x_aload_n C dX7_openText_0 rfl 0 rfl (x_aload_n C dX7_openText_1 rfl 0 rfl (gX_X7_15 C u_1_87 dX7_openText_2 (x_if_le C (tgt := 31) dX7_openText_5 (by decide) (fun c => ?_) (fun c => ?_))))
  · have h := ite_t h c
    exact w_x7_openText_j31 C E h
  · have h := ite_f h c
    refine x_aload_n C dX7_openText_8 rfl 0 rfl (gX_X7_15 C u_1_87 dX7_openText_9 (x_bipush C dX7_openText_12 kb_6 (x_icmp_gt C (tgt := 31) dX7_openText_14 (by decide) (fun c => ?_) (fun c => ?_))))
    · have h := ite_t h c
      exact w_x7_openText_j31 C E h
    · have h := ite_f h c
      obtain ⟨g27, h⟩ := G_some h
      exact x_aload_n C dX7_openText_17 rfl 0 rfl (gX_X7_9 C u_1_81 dX7_openText_18 (x_aload_n C dX7_openText_21 rfl 0 rfl (gX_X7_15 C u_1_87 dX7_openText_22 (x_iconst C dX7_openText_25 kc_1 (x_isub C dX7_openText_26 (aX_22 C g27 dX7_openText_27 (x_goto C (tgt := 32) dX7_openText_28 (by decide) (w_x7_openText_j32 C E h))))))))
set_option maxHeartbeats 4000000 in
theorem w_x7_takeAway_h25 {z : ZT} {ad : AD} {ek : EK} {lh : Launch} {Dh : va_G} {S' : ST} (C : CX z ad ek cX7_takeAway RX7 lh Dh 1 5) (E : EV z (cX ad) cX7_takeAway S') : ∀ (n : Nat) (S : ST) (l1 : Int32) (l3 : Int32) (l4 : Int32), x7_takeAway_h25 n S l1 l3 l4 = some S' → XW z (cX ad) 25 [(0, .ref (ad.1 2)), (1, .int l1), (3, .int l3), (4, .int l4)] [] S := by
  intro n
  induction n with
  | zero => intro S l1 l3 l4 h; cases h
  | succ n ih =>
    intro S l1 l3 l4 h
    have hKb := ih
    obtain ⟨g32, h⟩ := G_some h
    refine x_iload C dX7_takeAway_25 3 rfl (x_aload_n C dX7_takeAway_27 rfl 0 rfl (gX_X7_11 C u_1_83 dX7_takeAway_28 (x_iload_n C dX7_takeAway_31 rfl 1 rfl (aX_24 C g32 dX7_takeAway_32 (x_icmp_ge C (tgt := 62) dX7_takeAway_33 (by decide) (fun c => ?_) (fun c => ?_))))))
    · have h := ite_t h c
      exact (by
        exact x_vret E h dX7_takeAway_62)
    · have h := ite_f h c
      obtain ⟨g54, h⟩ := G_some h
      obtain ⟨g55, h⟩ := G_some h
      exact x_aload_n C dX7_takeAway_36 rfl 0 rfl (gX_X7_10 C u_1_82 dX7_takeAway_37 (x_iload_n C dX7_takeAway_40 rfl 2 rfl (x_iload C dX7_takeAway_41 3 rfl (x_iadd C dX7_takeAway_43 (x_aload_n C dX7_takeAway_44 rfl 0 rfl (gX_X7_10 C u_1_82 dX7_takeAway_45 (x_iload_n C dX7_takeAway_48 rfl 2 rfl (x_iload C dX7_takeAway_49 3 rfl (x_iadd C dX7_takeAway_51 (x_iconst C dX7_takeAway_52 kc_1 (x_iadd C dX7_takeAway_53 (aX_23 C g54 dX7_takeAway_54 (sX_23 C g55 dX7_takeAway_55 (x_iinc C dX7_takeAway_56 3 rfl ki_1 (by decide) rfl (x_goto C (tgt := 25) dX7_takeAway_59 (by decide) (x_perm [1, 2, 3, 0] rfl (hKb _ _ _ _ h)))))))))))))))))
set_option maxHeartbeats 4000000 in
theorem c_x7_takeAway {ad : AD} {ek : EK} {lh : Launch} {Dh : va_G} {S' : ST}  {S : ST} {l1 : Int32} {l2 : Int32} (h : x7_takeAway S l1 l2 = some S') : MXv lh Dh ad ek (cX ad) yX7_takeAway cX7_takeAway 5 none 1 [.ref (ad.1 2), .int l1, .int l2] S S' := by
  refine mxv_of (by decide) (Nat.le_of_ble_eq_true rfl) (fun z C E => ?_)
  unfold x7_takeAway at h
  refine x_iload_n C dX7_takeAway_0 rfl 2 rfl (x_iconst C dX7_takeAway_1 kc_m1 (x_icmp_ne C (tgt := 6) dX7_takeAway_2 (by decide) (fun c => ?_) (fun c => ?_)))
  · have h := ite_f h c
    obtain ⟨g18, h⟩ := G_some h
    obtain ⟨g21, h⟩ := G_some h
    exact x_iload_n C dX7_takeAway_6 rfl 1 rfl (x_sipush C dX7_takeAway_7 ks_144 (x_imul C dX7_takeAway_10 (x_istore_n C dX7_takeAway_11 rfl (by decide) rfl (x_aload_n C dX7_takeAway_12 rfl 1 rfl (gX_X7_11 C u_1_83 dX7_takeAway_13 (x_iload_n C dX7_takeAway_16 rfl 2 rfl (x_dup2 C dX7_takeAway_17 rfl rfl (aX_24 C g18 dX7_takeAway_18 (x_iconst C dX7_takeAway_19 kc_1 (x_isub C dX7_takeAway_20 (sX_24 C g21 dX7_takeAway_21 (x_iload_n C dX7_takeAway_22 rfl 3 rfl (x_istore C dX7_takeAway_23 (by decide) rfl (x_perm [2, 3, 1, 0] rfl (w_x7_takeAway_h25 C E FU _ _ _ _ h)))))))))))))))
  · have h := ite_t h c
    exact x_vret E h dX7_takeAway_5
