set_option maxHeartbeats 4000000 in
theorem w_x8_empty_h2 {z : ZT} {ad : AD} {ek : EK} {lh : Launch} {Dh : va_G} {S' : ST} (C : CX z ad ek cX8_empty RX8 lh Dh 1 2) (E : EV z (cX ad) cX8_empty S') : ∀ (n : Nat) (S : ST) (l1 : Int32), x8_empty_h2 n S l1 = some S' → XW z (cX ad) 2 [(0, .ref (ad.1 8)), (1, .int l1)] [] S := by
  intro n
  induction n with
  | zero => intro S l1 h; cases h
  | succ n ih =>
    intro S l1 h
    have hKb := ih
    refine x_iload_n C dX8_empty_2 rfl 1 rfl (x_iconst C dX8_empty_3 kc_3 (x_icmp_ge C (tgt := 20) dX8_empty_4 (by decide) (fun c => ?_) (fun c => ?_)))
    · have h := ite_t h c
      exact (by
        exact x_vret E h dX8_empty_20)
    · have h := ite_f h c
      obtain ⟨g13, h⟩ := G_some h
      exact x_aload_n C dX8_empty_7 rfl 0 rfl (gX_X8_1 C u_2_93 dX8_empty_8 (x_iload_n C dX8_empty_11 rfl 1 rfl (x_iconst C dX8_empty_12 kc_0 (sX_40 C g13 dX8_empty_13 (x_iinc C dX8_empty_14 1 rfl ki_1 (by decide) rfl (x_goto C (tgt := 2) dX8_empty_17 (by decide) (x_perm [1, 0] rfl (hKb _ _ h))))))))
set_option maxHeartbeats 4000000 in
theorem c_x8_empty {ad : AD} {ek : EK} {lh : Launch} {Dh : va_G} {S' : ST}  {S : ST} (h : x8_empty S = some S') : MXv lh Dh ad ek (cX ad) yX8_empty cX8_empty 2 none 1 [.ref (ad.1 8)] S S' := by
  refine mxv_of (by decide) (Nat.le_of_ble_eq_true rfl) (fun z C E => ?_)
  unfold x8_empty at h
  exact x_iconst C dX8_empty_0 kc_0 (x_istore_n C dX8_empty_1 rfl (by decide) rfl (x_perm [1, 0] rfl (w_x8_empty_h2 C E FU _ _ h)))
set_option maxHeartbeats 4000000 in
theorem c_x8_lengthOf {ad : AD} {ek : EK} {lh : Launch} {Dh : va_G} {r : Int32} {S' : ST}  {S : ST} {l1 : Int32} (h : x8_lengthOf S l1 = some (r, S')) : MXi lh Dh ad ek (cX ad) yX8_lengthOf cX8_lengthOf 2 (some .int) 1 [.ref (ad.1 8), .int l1] S r S' := by
  refine mxi_of (by decide) (Nat.le_of_ble_eq_true rfl) (fun z C E => ?_)
  unfold x8_lengthOf at h
  refine x_iload_n C dX8_lengthOf_0 rfl 1 rfl (x_if_lt C (tgt := 18) dX8_lengthOf_1 (by decide) (fun c => ?_) (fun c => ?_))
  · have h := ite_t h c
    exact x_iconst C dX8_lengthOf_18 kc_m1 (x_iret E h retI dX8_lengthOf_19)
  · have h := ite_f h c
    refine x_iload_n C dX8_lengthOf_4 rfl 1 rfl (x_iconst C dX8_lengthOf_5 kc_3 (x_icmp_ge C (tgt := 18) dX8_lengthOf_6 (by decide) (fun c => ?_) (fun c => ?_)))
    · have h := ite_t h c
      exact x_iconst C dX8_lengthOf_18 kc_m1 (x_iret E h retI dX8_lengthOf_19)
    · have h := ite_f h c
      obtain ⟨g14, h⟩ := G_some h
      exact x_aload_n C dX8_lengthOf_9 rfl 0 rfl (gX_X8_1 C u_2_93 dX8_lengthOf_10 (x_iload_n C dX8_lengthOf_13 rfl 1 rfl (aX_40 C g14 dX8_lengthOf_14 (x_goto C (tgt := 19) dX8_lengthOf_15 (by decide) (x_iret E h retI dX8_lengthOf_19)))))
set_option maxHeartbeats 4000000 in
theorem w_x9_append_j40 {z : ZT} {ad : AD} {ek : EK} {lh : Launch} {Dh : va_G} {S' : ST} (C : CX z ad ek cX9_append RX9 lh Dh 1 3) (E : EV z (cX ad) cX9_append S') {Kb : ST → Int32 → Int32 → Option ST} (hKb : ∀ (S : ST) (l1 : Int32) (l2 : Int32) , Kb S l1 l2 = some S' → XW z (cX ad) 3 [(0, .ref (ad.1 1)), (1, .int l1), (2, .int l2)] [] S) {S : ST} {l1 : Int32} {l2 : Int32} (h : x9_append_j40 Kb S l1 l2 = some S') : XW z (cX ad) 40 [(0, .ref (ad.1 1)), (1, .int l1), (2, .int l2)] [] S := by
  unfold x9_append_j40 at h
  exact x_iinc C dX9_append_40 2 rfl ki_m8 (by decide) rfl (x_goto C (tgt := 3) dX9_append_43 (by decide) (x_perm [1, 2, 0] rfl (hKb _ _ _ h)))
set_option maxHeartbeats 4000000 in
theorem w_x9_append_h3 {z : ZT} {ad : AD} {ek : EK} {lh : Launch} {Dh : va_G} {S' : ST} (C : CX z ad ek cX9_append RX9 lh Dh 1 3) (E : EV z (cX ad) cX9_append S') : ∀ (n : Nat) (S : ST) (l1 : Int32) (l2 : Int32), x9_append_h3 n S l1 l2 = some S' → XW z (cX ad) 3 [(0, .ref (ad.1 1)), (1, .int l1), (2, .int l2)] [] S := by
  intro n
  induction n with
  | zero => intro S l1 l2 h; cases h
  | succ n ih =>
    intro S l1 l2 h
    have hKb := ih
    refine x_iload_n C dX9_append_3 rfl 2 rfl (x_if_lt C (tgt := 46) dX9_append_4 (by decide) (fun c => ?_) (fun c => ?_))
    · have h := ite_t h c
      exact (by
        exact x_vret E h dX9_append_46)
    · have h := ite_f h c
      refine x_aload_n C dX9_append_7 rfl 0 rfl (gX_X9_1 C u_1_36 dX9_append_8 (x_sipush C dX9_append_11 ks_2000 (x_icmp_ge C (tgt := 40) dX9_append_14 (by decide) (fun c => ?_) (fun c => ?_))))
      · have h := ite_t h c
        exact w_x9_append_j40 C E hKb h
      · have h := ite_f h c
        obtain ⟨g29, h⟩ := G_some h
        exact x_aload_n C dX9_append_17 rfl 0 rfl (gX_X9_0 C u_1_35 dX9_append_18 (x_aload_n C dX9_append_21 rfl 0 rfl (gX_X9_1 C u_1_36 dX9_append_22 (x_iload_n C dX9_append_25 rfl 1 rfl (x_iload_n C dX9_append_26 rfl 2 rfl (x_iushr C dX9_append_27 (x_i2b C dX9_append_28 (sX_12 C g29 dX9_append_29 (x_aload_n C dX9_append_30 rfl 0 rfl (x_dup C dX9_append_31 rfl (gX_X9_1 C u_1_36 dX9_append_32 (x_iconst C dX9_append_35 kc_1 (x_iadd C dX9_append_36 (pX_X9_1 C u_1_36 dX9_append_37 (w_x9_append_j40 C E hKb h)))))))))))))))
set_option maxHeartbeats 4000000 in
theorem c_x9_append {ad : AD} {ek : EK} {lh : Launch} {Dh : va_G} {S' : ST}  {S : ST} {l1 : Int32} (h : x9_append S l1 = some S') : MXv lh Dh ad ek (cX ad) yX9_append cX9_append 3 none 1 [.ref (ad.1 1), .int l1] S S' := by
  refine mxv_of (by decide) (Nat.le_of_ble_eq_true rfl) (fun z C E => ?_)
  unfold x9_append at h
  exact x_bipush C dX9_append_0 kb_24 (x_istore_n C dX9_append_2 rfl (by decide) rfl (x_perm [1, 2, 0] rfl (w_x9_append_h3 C E FU _ _ _ h)))
set_option maxHeartbeats 4000000 in
theorem c_x9_byteAt {ad : AD} {ek : EK} {lh : Launch} {Dh : va_G} {r : Int32} {S' : ST}  {S : ST} {l1 : Int32} (h : x9_byteAt S l1 = some (r, S')) : MXi lh Dh ad ek (cX ad) yX9_byteAt cX9_byteAt 2 (some .int) 1 [.ref (ad.1 1), .int l1] S r S' := by
  refine mxi_of (by decide) (Nat.le_of_ble_eq_true rfl) (fun z C E => ?_)
  unfold x9_byteAt at h
  refine x_iload_n C dX9_byteAt_0 rfl 1 rfl (x_if_lt C (tgt := 32) dX9_byteAt_1 (by decide) (fun c => ?_) (fun c => ?_))
  · have h := ite_t h c
    exact x_iconst C dX9_byteAt_32 kc_m1 (x_iret E h retI dX9_byteAt_33)
  · have h := ite_f h c
    refine x_iload_n C dX9_byteAt_4 rfl 1 rfl (x_aload_n C dX9_byteAt_5 rfl 0 rfl (gX_X9_1 C u_1_36 dX9_byteAt_6 (x_icmp_ge C (tgt := 32) dX9_byteAt_9 (by decide) (fun c => ?_) (fun c => ?_))))
    · have h := ite_t h c
      exact x_iconst C dX9_byteAt_32 kc_m1 (x_iret E h retI dX9_byteAt_33)
    · have h := ite_f h c
      refine x_iload_n C dX9_byteAt_12 rfl 1 rfl (x_sipush C dX9_byteAt_13 ks_2000 (x_icmp_ge C (tgt := 32) dX9_byteAt_16 (by decide) (fun c => ?_) (fun c => ?_)))
      · have h := ite_t h c
        exact x_iconst C dX9_byteAt_32 kc_m1 (x_iret E h retI dX9_byteAt_33)
      · have h := ite_f h c
        obtain ⟨g24, h⟩ := G_some h
        exact x_aload_n C dX9_byteAt_19 rfl 0 rfl (gX_X9_0 C u_1_35 dX9_byteAt_20 (x_iload_n C dX9_byteAt_23 rfl 1 rfl (aX_12 C g24 dX9_byteAt_24 (x_sipush C dX9_byteAt_25 ks_255 (x_iand C dX9_byteAt_28 (x_goto C (tgt := 33) dX9_byteAt_29 (by decide) (x_iret E h retI dX9_byteAt_33)))))))
set_option maxHeartbeats 4000000 in
theorem c_x9_hasRoom {ad : AD} {ek : EK} {lh : Launch} {Dh : va_G} {r : Int32} {S' : ST}  {S : ST} (h : x9_hasRoom S = some (r, S')) : MXi lh Dh ad ek (cX ad) yX9_hasRoom cX9_hasRoom 1 (some .boolean) 1 [.ref (ad.1 1)] S r S' := by
  refine mxi_of (by decide) (Nat.le_of_ble_eq_true rfl) (fun z C E => ?_)
  unfold x9_hasRoom at h
  refine x_aload_n C dX9_hasRoom_0 rfl 0 rfl (gX_X9_1 C u_1_36 dX9_hasRoom_1 (x_sipush C dX9_hasRoom_4 ks_1980 (x_icmp_gt C (tgt := 14) dX9_hasRoom_7 (by decide) (fun c => ?_) (fun c => ?_))))
  · have h := ite_t h c
    exact x_iconst C dX9_hasRoom_14 kc_0 (x_iret E h (retB rfl) dX9_hasRoom_15)
  · have h := ite_f h c
    exact x_iconst C dX9_hasRoom_10 kc_1 (x_goto C (tgt := 15) dX9_hasRoom_11 (by decide) (x_iret E h (retB rfl) dX9_hasRoom_15))
set_option maxHeartbeats 4000000 in
theorem c_x9_isBlank {ad : AD} {ek : EK} {lh : Launch} {Dh : va_G} {w : ST → va_W} {S0 : ST} {r : Int32}  {l0 : Int32} (h : x9_isBlank l0 = some r) : MXi lh Dh ad ek w yX9_isBlank cX9_isBlank 1 (some .boolean) 1 [.int l0] S0 r S0 := by
  refine mxi_of (by decide) (Nat.le_of_ble_eq_true rfl) (fun z C E => ?_)
  unfold x9_isBlank at h
  refine x_iload_n C dX9_isBlank_0 rfl 0 rfl (x_bipush C dX9_isBlank_1 kb_9 (x_icmp_eq C (tgt := 24) dX9_isBlank_3 (by decide) (fun c => ?_) (fun c => ?_)))
  · have h := ite_t h c
    exact x_iconst C dX9_isBlank_24 kc_1 (x_goto C (tgt := 29) dX9_isBlank_25 (by decide) (x_iret0 E h (retB rfl) dX9_isBlank_29))
  · have h := ite_f h c
    refine x_iload_n C dX9_isBlank_6 rfl 0 rfl (x_bipush C dX9_isBlank_7 kb_10 (x_icmp_eq C (tgt := 24) dX9_isBlank_9 (by decide) (fun c => ?_) (fun c => ?_)))
    · have h := ite_t h c
      exact x_iconst C dX9_isBlank_24 kc_1 (x_goto C (tgt := 29) dX9_isBlank_25 (by decide) (x_iret0 E h (retB rfl) dX9_isBlank_29))
    · have h := ite_f h c
      refine x_iload_n C dX9_isBlank_12 rfl 0 rfl (x_bipush C dX9_isBlank_13 kb_13 (x_icmp_eq C (tgt := 24) dX9_isBlank_15 (by decide) (fun c => ?_) (fun c => ?_)))
      · have h := ite_t h c
        exact x_iconst C dX9_isBlank_24 kc_1 (x_goto C (tgt := 29) dX9_isBlank_25 (by decide) (x_iret0 E h (retB rfl) dX9_isBlank_29))
      · have h := ite_f h c
        refine x_iload_n C dX9_isBlank_18 rfl 0 rfl (x_bipush C dX9_isBlank_19 kb_32 (x_icmp_ne C (tgt := 28) dX9_isBlank_21 (by decide) (fun c => ?_) (fun c => ?_)))
        · have h := ite_f h c
          exact x_iconst C dX9_isBlank_28 kc_0 (x_iret0 E h (retB rfl) dX9_isBlank_29)
        · have h := ite_t h c
          exact x_iconst C dX9_isBlank_24 kc_1 (x_goto C (tgt := 29) dX9_isBlank_25 (by decide) (x_iret0 E h (retB rfl) dX9_isBlank_29))
set_option maxHeartbeats 4000000 in
theorem w_x0_heardWord_j32 {z : ZT} {ad : AD} {ek : EK} {lh : Launch} {Dh : va_G} {r : Int32} {S' : ST} (C : CX z ad ek cX0_heardWord RX0 lh Dh 2 5) (E : EI z (cX ad) cX0_heardWord (some .int) r S') {Kb : ST → Int32 → Int32 → Int32 → Int32 → Option (Int32 × ST)} (hKb : ∀ (S : ST) (l1 : Int32) (l2 : Int32) (l3 : Int32) (l4 : Int32) , Kb S l1 l2 l3 l4 = some (r, S') → XW z (cX ad) 7 [(0, .ref (ad.1 4)), (1, .int l1), (2, .int l2), (3, .int l3), (4, .int l4)] [] S) {S : ST} {l1 : Int32} {l2 : Int32} {l3 : Int32} {l4 : Int32} (h : x0_heardWord_j32 Kb S l1 l2 l3 l4 = some (r, S')) : XW z (cX ad) 32 [(0, .ref (ad.1 4)), (1, .int l1), (2, .int l2), (3, .int l3), (4, .int l4)] [] S := by
  unfold x0_heardWord_j32 at h
  exact x_iinc C dX0_heardWord_32 4 rfl ki_1 (by decide) rfl (x_goto C (tgt := 7) dX0_heardWord_35 (by decide) (x_perm [1, 2, 3, 4, 0] rfl (hKb _ _ _ _ _ h)))
set_option maxHeartbeats 4000000 in
theorem w_x0_heardWord_h7 {z : ZT} {ad : AD} {ek : EK} {lh : Launch} {Dh : va_G} {r : Int32} {S' : ST} (C : CX z ad ek cX0_heardWord RX0 lh Dh 2 5) (E : EI z (cX ad) cX0_heardWord (some .int) r S') : ∀ (n : Nat) (S : ST) (l1 : Int32) (l2 : Int32) (l3 : Int32) (l4 : Int32), x0_heardWord_h7 n S l1 l2 l3 l4 = some (r, S') → XW z (cX ad) 7 [(0, .ref (ad.1 4)), (1, .int l1), (2, .int l2), (3, .int l3), (4, .int l4)] [] S := by
  intro n
  induction n with
  | zero => intro S l1 l2 l3 l4 h; cases h
  | succ n ih =>
    intro S l1 l2 l3 l4 h
    have hKb := ih
    refine x_iload C dX0_heardWord_7 4 rfl (x_iload_n C dX0_heardWord_9 rfl 2 rfl (x_icmp_ge C (tgt := 38) dX0_heardWord_10 (by decide) (fun c => ?_) (fun c => ?_)))
    · have h := ite_t h c
      exact (by
        exact x_iload_n C dX0_heardWord_38 rfl 3 rfl (x_iret E h retI dX0_heardWord_39))
    · have h := ite_f h c
      obtain ⟨r18, S18, e18, h⟩ := cal_some h
      refine x_aload_n C dX0_heardWord_13 rfl 0 rfl (x_iload C dX0_heardWord_14 4 rfl (x_iconst C dX0_heardWord_16 kc_1 (x_iload_n C dX0_heardWord_17 rfl 1 rfl (x_callVi C (c_x0_isAbout e18) k_X0_50 (ci := 0) (q0 := 4) rfl rfl (by decide) (Nat.le_of_ble_eq_true rfl) rfl dX0_heardWord_18 (x_if_eq C (tgt := 32) dX0_heardWord_21 (by decide) (fun c => ?_) (fun c => ?_))))))
      · have h := ite_t h c
        exact w_x0_heardWord_j32 C E hKb h
      · have h := ite_f h c
        obtain ⟨g30, h⟩ := G_some h
        exact x_aload_n C dX0_heardWord_24 rfl 0 rfl (gX_X0_4 C u_1_203 dX0_heardWord_25 (x_iload C dX0_heardWord_28 4 rfl (aX_30 C g30 dX0_heardWord_30 (x_istore_n C dX0_heardWord_31 rfl (by decide) rfl (x_perm [1, 2, 3, 0, 4] rfl (w_x0_heardWord_j32 C E hKb h))))))
set_option maxHeartbeats 4000000 in
theorem c_x0_heardWord {ad : AD} {ek : EK} {lh : Launch} {Dh : va_G} {r : Int32} {S' : ST}  {S : ST} {l1 : Int32} {l2 : Int32} (h : x0_heardWord S l1 l2 = some (r, S')) : MXi lh Dh ad ek (cX ad) yX0_heardWord cX0_heardWord 5 (some .int) 2 [.ref (ad.1 4), .int l1, .int l2] S r S' := by
  refine mxi_of (by decide) (Nat.le_of_ble_eq_true rfl) (fun z C E => ?_)
  unfold x0_heardWord at h
  exact x_iconst C dX0_heardWord_0 kc_0 (x_istore_n C dX0_heardWord_1 rfl (by decide) rfl (x_iload_n C dX0_heardWord_2 rfl 2 rfl (x_iconst C dX0_heardWord_3 kc_1 (x_iadd C dX0_heardWord_4 (x_istore C dX0_heardWord_5 (by decide) rfl (x_perm [2, 3, 4, 1, 0] rfl (w_x0_heardWord_h7 C E FU _ _ _ _ _ h)))))))
set_option maxHeartbeats 4000000 in
theorem c_x0_isMendBy {ad : AD} {ek : EK} {lh : Launch} {Dh : va_G} {r : Int32} {S' : ST}  {S : ST} {l1 : Int32} {l2 : Int32} {l3 : Int32} (h : x0_isMendBy S l1 l2 l3 = some (r, S')) : MXi lh Dh ad ek (cX ad) yX0_isMendBy cX0_isMendBy 4 (some .boolean) 2 [.ref (ad.1 4), .int l1, .int l2, .int l3] S r S' := by
  refine mxi_of (by decide) (Nat.le_of_ble_eq_true rfl) (fun z C E => ?_)
  unfold x0_isMendBy at h
  obtain ⟨r4, S4, e4, h⟩ := cal_some h
  refine x_aload_n C dX0_isMendBy_0 rfl 0 rfl (x_iload_n C dX0_isMendBy_1 rfl 1 rfl (x_iconst C dX0_isMendBy_2 kc_0 (x_iload_n C dX0_isMendBy_3 rfl 2 rfl (x_callVi C (c_x0_isAbout e4) k_X0_50 (ci := 0) (q0 := 4) rfl rfl (by decide) (Nat.le_of_ble_eq_true rfl) rfl dX0_isMendBy_4 (x_if_eq C (tgt := 24) dX0_isMendBy_7 (by decide) (fun c => ?_) (fun c => ?_))))))
  · have h := ite_t h c
    exact x_iconst C dX0_isMendBy_24 kc_0 (x_iret E h (retB rfl) dX0_isMendBy_25)
  · have h := ite_f h c
    obtain ⟨g15, h⟩ := G_some h
    refine x_aload_n C dX0_isMendBy_10 rfl 0 rfl (gX_X0_1 C u_1_192 dX0_isMendBy_11 (x_iload_n C dX0_isMendBy_14 rfl 1 rfl (aX_27 C g15 dX0_isMendBy_15 (x_iload_n C dX0_isMendBy_16 rfl 3 rfl (x_icmp_gt C (tgt := 24) dX0_isMendBy_17 (by decide) (fun c => ?_) (fun c => ?_))))))
    · have h := ite_t h c
      exact x_iconst C dX0_isMendBy_24 kc_0 (x_iret E h (retB rfl) dX0_isMendBy_25)
    · have h := ite_f h c
      exact x_iconst C dX0_isMendBy_20 kc_1 (x_goto C (tgt := 25) dX0_isMendBy_21 (by decide) (x_iret E h (retB rfl) dX0_isMendBy_25))
set_option maxHeartbeats 4000000 in
theorem w_x0_isStruckBy_j35 {z : ZT} {ad : AD} {ek : EK} {lh : Launch} {Dh : va_G} {r : Int32} {S' : ST} (C : CX z ad ek cX0_isStruckBy RX0 lh Dh 2 5) (E : EI z (cX ad) cX0_isStruckBy (some .boolean) r S') {Kb : ST → Int32 → Int32 → Int32 → Int32 → Option (Int32 × ST)} (hKb : ∀ (S : ST) (l1 : Int32) (l2 : Int32) (l3 : Int32) (l4 : Int32) , Kb S l1 l2 l3 l4 = some (r, S') → XW z (cX ad) 5 [(0, .ref (ad.1 4)), (1, .int l1), (2, .int l2), (3, .int l3), (4, .int l4)] [] S) {S : ST} {l1 : Int32} {l2 : Int32} {l3 : Int32} {l4 : Int32} (h : x0_isStruckBy_j35 Kb S l1 l2 l3 l4 = some (r, S')) : XW z (cX ad) 35 [(0, .ref (ad.1 4)), (1, .int l1), (2, .int l2), (3, .int l3), (4, .int l4)] [] S := by
  unfold x0_isStruckBy_j35 at h
  exact x_iinc C dX0_isStruckBy_35 4 rfl ki_1 (by decide) rfl (x_goto C (tgt := 5) dX0_isStruckBy_38 (by decide) (x_perm [1, 2, 3, 4, 0] rfl (hKb _ _ _ _ _ h)))
set_option maxHeartbeats 4000000 in
theorem w_x0_isStruckBy_h5 {z : ZT} {ad : AD} {ek : EK} {lh : Launch} {Dh : va_G} {r : Int32} {S' : ST} (C : CX z ad ek cX0_isStruckBy RX0 lh Dh 2 5) (E : EI z (cX ad) cX0_isStruckBy (some .boolean) r S') : ∀ (n : Nat) (S : ST) (l1 : Int32) (l2 : Int32) (l3 : Int32) (l4 : Int32), x0_isStruckBy_h5 n S l1 l2 l3 l4 = some (r, S') → XW z (cX ad) 5 [(0, .ref (ad.1 4)), (1, .int l1), (2, .int l2), (3, .int l3), (4, .int l4)] [] S := by
  intro n
  induction n with
  | zero => intro S l1 l2 l3 l4 h; cases h
  | succ n ih =>
    intro S l1 l2 l3 l4 h
    have hKb := ih
    refine x_iload C dX0_isStruckBy_5 4 rfl (x_iload_n C dX0_isStruckBy_7 rfl 3 rfl (x_icmp_ge C (tgt := 41) dX0_isStruckBy_8 (by decide) (fun c => ?_) (fun c => ?_)))
    · have h := ite_t h c
      exact (by
        exact x_iconst C dX0_isStruckBy_41 kc_0 (x_iret E h (retB rfl) dX0_isStruckBy_42))
    · have h := ite_f h c
      obtain ⟨r16, S16, e16, h⟩ := cal_some h
      refine x_aload_n C dX0_isStruckBy_11 rfl 0 rfl (x_iload C dX0_isStruckBy_12 4 rfl (x_iconst C dX0_isStruckBy_14 kc_2 (x_iload_n C dX0_isStruckBy_15 rfl 1 rfl (x_callVi C (c_x0_isAbout e16) k_X0_50 (ci := 0) (q0 := 4) rfl rfl (by decide) (Nat.le_of_ble_eq_true rfl) rfl dX0_isStruckBy_16 (x_if_eq C (tgt := 35) dX0_isStruckBy_19 (by decide) (fun c => ?_) (fun c => ?_))))))
      · have h := ite_t h c
        exact w_x0_isStruckBy_j35 C E hKb h
      · have h := ite_f h c
        obtain ⟨g28, h⟩ := G_some h
        refine x_aload_n C dX0_isStruckBy_22 rfl 0 rfl (gX_X0_1 C u_1_192 dX0_isStruckBy_23 (x_iload C dX0_isStruckBy_26 4 rfl (aX_27 C g28 dX0_isStruckBy_28 (x_iload_n C dX0_isStruckBy_29 rfl 2 rfl (x_icmp_gt C (tgt := 35) dX0_isStruckBy_30 (by decide) (fun c => ?_) (fun c => ?_))))))
        · have h := ite_t h c
          exact w_x0_isStruckBy_j35 C E hKb h
        · have h := ite_f h c
          exact (by
            exact x_iconst C dX0_isStruckBy_33 kc_1 (x_iret E h (retB rfl) dX0_isStruckBy_34))
set_option maxHeartbeats 4000000 in
theorem c_x0_isStruckBy {ad : AD} {ek : EK} {lh : Launch} {Dh : va_G} {r : Int32} {S' : ST}  {S : ST} {l1 : Int32} {l2 : Int32} {l3 : Int32} (h : x0_isStruckBy S l1 l2 l3 = some (r, S')) : MXi lh Dh ad ek (cX ad) yX0_isStruckBy cX0_isStruckBy 5 (some .boolean) 2 [.ref (ad.1 4), .int l1, .int l2, .int l3] S r S' := by
  refine mxi_of (by decide) (Nat.le_of_ble_eq_true rfl) (fun z C E => ?_)
  unfold x0_isStruckBy at h
  exact x_iload_n C dX0_isStruckBy_0 rfl 1 rfl (x_iconst C dX0_isStruckBy_1 kc_1 (x_iadd C dX0_isStruckBy_2 (x_istore C dX0_isStruckBy_3 (by decide) rfl (x_perm [1, 2, 3, 4, 0] rfl (w_x0_isStruckBy_h5 C E FU _ _ _ _ _ h)))))
set_option maxHeartbeats 4000000 in
theorem w_x0_lastTurnOfDivision_j133 {z : ZT} {ad : AD} {ek : EK} {lh : Launch} {Dh : va_G} {r : Int32} {S' : ST} (C : CX z ad ek cX0_lastTurnOfDivision RX0 lh Dh 2 10) (E : EI z (cX ad) cX0_lastTurnOfDivision (some .int) r S') {Kb : ST → Int32 → Int32 → Int32 → Int32 → Int32 → Int32 → Int32 → Option (Int32 × ST)} (hKb : ∀ (S : ST) (l1 : Int32) (l2 : Int32) (l3 : Int32) (l4 : Int32) (l5 : Int32) (l6 : Int32) (l7 : Int32) , Kb S l1 l2 l3 l4 l5 l6 l7 = some (r, S') → XW z (cX ad) 15 [(0, .ref (ad.1 4)), (1, .int l1), (2, .int l2), (3, .int l3), (4, .int l4), (5, .int l5), (6, .int l6), (7, .int l7)] [] S) {S : ST} {l1 : Int32} {l2 : Int32} {l3 : Int32} {l4 : Int32} {l5 : Int32} {l6 : Int32} {l7 : Int32} (h : x0_lastTurnOfDivision_j133 Kb S l1 l2 l3 l4 l5 l6 l7 = some (r, S')) : XW z (cX ad) 133 [(0, .ref (ad.1 4)), (1, .int l1), (2, .int l2), (3, .int l3), (4, .int l4), (5, .int l5), (6, .int l6), (7, .int l7)] [] S := by
  unfold x0_lastTurnOfDivision_j133 at h
  exact x_iinc C dX0_lastTurnOfDivision_133 7 rfl ki_1 (by decide) rfl (x_goto C (tgt := 15) dX0_lastTurnOfDivision_136 (by decide) (x_perm [1, 2, 3, 4, 5, 6, 7, 0] rfl (hKb _ _ _ _ _ _ _ _ h)))
set_option maxHeartbeats 4000000 in
theorem w_x0_lastTurnOfDivision_j127 {z : ZT} {ad : AD} {ek : EK} {lh : Launch} {Dh : va_G} {r : Int32} {S' : ST} (C : CX z ad ek cX0_lastTurnOfDivision RX0 lh Dh 2 10) (E : EI z (cX ad) cX0_lastTurnOfDivision (some .int) r S') {Kb : ST → Int32 → Int32 → Int32 → Int32 → Int32 → Int32 → Int32 → Option (Int32 × ST)} (hKb : ∀ (S : ST) (l1 : Int32) (l2 : Int32) (l3 : Int32) (l4 : Int32) (l5 : Int32) (l6 : Int32) (l7 : Int32) , Kb S l1 l2 l3 l4 l5 l6 l7 = some (r, S') → XW z (cX ad) 15 [(0, .ref (ad.1 4)), (1, .int l1), (2, .int l2), (3, .int l3), (4, .int l4), (5, .int l5), (6, .int l6), (7, .int l7)] [] S) {S : ST} {l1 : Int32} {l2 : Int32} {l3 : Int32} {l4 : Int32} {l7 : Int32} {l9 : Int32} {s0 : Int32} (h : x0_lastTurnOfDivision_j127 Kb S l1 l2 l3 l4 l7 l9 s0 = some (r, S')) : XW z (cX ad) 127 [(0, .ref (ad.1 4)), (1, .int l1), (2, .int l2), (3, .int l3), (4, .int l4), (7, .int l7), (9, .int l9)] [.int s0] S := by
  unfold x0_lastTurnOfDivision_j127 at h
  exact x_istore C dX0_lastTurnOfDivision_127 (by decide) rfl (x_iload C dX0_lastTurnOfDivision_129 7 rfl (x_istore C dX0_lastTurnOfDivision_131 (by decide) rfl (x_perm [2, 3, 4, 5, 6, 1, 0, 7] rfl (w_x0_lastTurnOfDivision_j133 C E hKb h))))
set_option maxHeartbeats 4000000 in
theorem w_x0_lastTurnOfDivision_j111 {z : ZT} {ad : AD} {ek : EK} {lh : Launch} {Dh : va_G} {r : Int32} {S' : ST} (C : CX z ad ek cX0_lastTurnOfDivision RX0 lh Dh 2 10) (E : EI z (cX ad) cX0_lastTurnOfDivision (some .int) r S') {Kb : ST → Int32 → Int32 → Int32 → Int32 → Int32 → Int32 → Int32 → Option (Int32 × ST)} (hKb : ∀ (S : ST) (l1 : Int32) (l2 : Int32) (l3 : Int32) (l4 : Int32) (l5 : Int32) (l6 : Int32) (l7 : Int32) , Kb S l1 l2 l3 l4 l5 l6 l7 = some (r, S') → XW z (cX ad) 15 [(0, .ref (ad.1 4)), (1, .int l1), (2, .int l2), (3, .int l3), (4, .int l4), (5, .int l5), (6, .int l6), (7, .int l7)] [] S) {S : ST} {l1 : Int32} {l2 : Int32} {l3 : Int32} {l4 : Int32} {l5 : Int32} {l6 : Int32} {l7 : Int32} {s0 : Int32} (h : x0_lastTurnOfDivision_j111 Kb S l1 l2 l3 l4 l5 l6 l7 s0 = some (r, S')) : XW z (cX ad) 111 [(0, .ref (ad.1 4)), (1, .int l1), (2, .int l2), (3, .int l3), (4, .int l4), (5, .int l5), (6, .int l6), (7, .int l7)] [.int s0] S := by
  unfold x0_lastTurnOfDivision_j111 at h
  refine x_istore C dX0_lastTurnOfDivision_111 (by decide) rfl (x_iload C dX0_lastTurnOfDivision_113 0 rfl (x_iload C dX0_lastTurnOfDivision_115 7 rfl (x_icmp_ne C (tgt := 125) dX0_lastTurnOfDivision_117 (by decide) (fun c => ?_) (fun c => ?_))))
  · have h := ite_f h c
    exact x_iload C dX0_lastTurnOfDivision_125 8 rfl (x_perm [1, 2, 3, 4, 5, 8, 0] rfl (w_x0_lastTurnOfDivision_j127 C E hKb h))
  · have h := ite_t h c
    exact x_iload C dX0_lastTurnOfDivision_120 6 rfl (x_goto C (tgt := 127) dX0_lastTurnOfDivision_122 (by decide) (x_perm [1, 2, 3, 4, 5, 8, 0] rfl (w_x0_lastTurnOfDivision_j127 C E hKb h)))
set_option maxHeartbeats 4000000 in
theorem w_x0_lastTurnOfDivision_j82 {z : ZT} {ad : AD} {ek : EK} {lh : Launch} {Dh : va_G} {r : Int32} {S' : ST} (C : CX z ad ek cX0_lastTurnOfDivision RX0 lh Dh 2 10) (E : EI z (cX ad) cX0_lastTurnOfDivision (some .int) r S') {Kb : ST → Int32 → Int32 → Int32 → Int32 → Int32 → Int32 → Int32 → Option (Int32 × ST)} (hKb : ∀ (S : ST) (l1 : Int32) (l2 : Int32) (l3 : Int32) (l4 : Int32) (l5 : Int32) (l6 : Int32) (l7 : Int32) , Kb S l1 l2 l3 l4 l5 l6 l7 = some (r, S') → XW z (cX ad) 15 [(0, .ref (ad.1 4)), (1, .int l1), (2, .int l2), (3, .int l3), (4, .int l4), (5, .int l5), (6, .int l6), (7, .int l7)] [] S) {S : ST} {l1 : Int32} {l2 : Int32} {l3 : Int32} {l5 : Int32} {l6 : Int32} {l7 : Int32} {s0 : Int32} {s1 : Int32} (h : x0_lastTurnOfDivision_j82 Kb S l1 l2 l3 l5 l6 l7 s0 s1 = some (r, S')) : XW z (cX ad) 82 [(0, .ref (ad.1 4)), (1, .int l1), (2, .int l2), (3, .int l3), (5, .int l5), (6, .int l6), (7, .int l7)] [.int s0, .int s1] S := by
  unfold x0_lastTurnOfDivision_j82 at h
  obtain ⟨r91, e91, h⟩ := cal0_some h
  obtain ⟨r100, e100, h⟩ := cal0_some h
  refine x_ior C dX0_lastTurnOfDivision_82 (x_istore C dX0_lastTurnOfDivision_83 (by decide) rfl (x_iload_n C dX0_lastTurnOfDivision_85 rfl 4 rfl (x_iload C dX0_lastTurnOfDivision_86 0 rfl (x_iconst C dX0_lastTurnOfDivision_88 kc_m1 (x_ixor C dX0_lastTurnOfDivision_89 (x_iand C dX0_lastTurnOfDivision_90 (x_callSi C (c_j6_bitCount_0f7a4 e91) k_X0_54 (by decide) (Nat.le_of_ble_eq_true rfl) rfl dX0_lastTurnOfDivision_91 (x_iload C dX0_lastTurnOfDivision_94 0 rfl (x_iload_n C dX0_lastTurnOfDivision_96 rfl 4 rfl (x_iconst C dX0_lastTurnOfDivision_97 kc_m1 (x_ixor C dX0_lastTurnOfDivision_98 (x_iand C dX0_lastTurnOfDivision_99 (x_callSi C (c_j6_bitCount_0f7a4 e100) k_X0_54 (by decide) (Nat.le_of_ble_eq_true rfl) rfl dX0_lastTurnOfDivision_100 (x_icmp_le C (tgt := 110) dX0_lastTurnOfDivision_103 (by decide) (fun c => ?_) (fun c => ?_)))))))))))))))
  · have h := ite_t h c
    exact x_iconst C dX0_lastTurnOfDivision_110 kc_0 (x_perm [1, 2, 3, 4, 0, 5, 6, 7] rfl (w_x0_lastTurnOfDivision_j111 C E hKb h))
  · have h := ite_f h c
    exact x_iconst C dX0_lastTurnOfDivision_106 kc_1 (x_goto C (tgt := 111) dX0_lastTurnOfDivision_107 (by decide) (x_perm [1, 2, 3, 4, 0, 5, 6, 7] rfl (w_x0_lastTurnOfDivision_j111 C E hKb h)))
set_option maxHeartbeats 4000000 in
theorem w_x0_lastTurnOfDivision_j61 {z : ZT} {ad : AD} {ek : EK} {lh : Launch} {Dh : va_G} {r : Int32} {S' : ST} (C : CX z ad ek cX0_lastTurnOfDivision RX0 lh Dh 2 10) (E : EI z (cX ad) cX0_lastTurnOfDivision (some .int) r S') {Kb : ST → Int32 → Int32 → Int32 → Int32 → Int32 → Int32 → Int32 → Option (Int32 × ST)} (hKb : ∀ (S : ST) (l1 : Int32) (l2 : Int32) (l3 : Int32) (l4 : Int32) (l5 : Int32) (l6 : Int32) (l7 : Int32) , Kb S l1 l2 l3 l4 l5 l6 l7 = some (r, S') → XW z (cX ad) 15 [(0, .ref (ad.1 4)), (1, .int l1), (2, .int l2), (3, .int l3), (4, .int l4), (5, .int l5), (6, .int l6), (7, .int l7)] [] S) {S : ST} {l1 : Int32} {l2 : Int32} {l4 : Int32} {l5 : Int32} {l6 : Int32} {l7 : Int32} {l8 : Int32} {s0 : Int32} {s1 : Int32} (h : x0_lastTurnOfDivision_j61 Kb S l1 l2 l4 l5 l6 l7 l8 s0 s1 = some (r, S')) : XW z (cX ad) 61 [(0, .ref (ad.1 4)), (1, .int l1), (2, .int l2), (4, .int l4), (5, .int l5), (6, .int l6), (7, .int l7), (8, .int l8)] [.int s0, .int s1] S := by
  unfold x0_lastTurnOfDivision_j61 at h
  obtain ⟨g71, h⟩ := G_some h
  refine x_ior C dX0_lastTurnOfDivision_61 (x_istore_n C dX0_lastTurnOfDivision_62 rfl (by decide) rfl (x_iload C dX0_lastTurnOfDivision_63 4 rfl (x_aload_n C dX0_lastTurnOfDivision_65 rfl 1 rfl (gX_X0_9 C u_1_213 dX0_lastTurnOfDivision_66 (x_iload C dX0_lastTurnOfDivision_69 7 rfl (aX_35 C g71 dX0_lastTurnOfDivision_71 (x_iconst C dX0_lastTurnOfDivision_72 kc_1 (x_icmp_ne C (tgt := 81) dX0_lastTurnOfDivision_73 (by decide) (fun c => ?_) (fun c => ?_)))))))))
  · have h := ite_f h c
    exact x_iconst C dX0_lastTurnOfDivision_81 kc_0 (x_perm [1, 2, 3, 0, 5, 6, 7] rfl (w_x0_lastTurnOfDivision_j82 C E hKb h))
  · have h := ite_t h c
    exact x_iload C dX0_lastTurnOfDivision_76 8 rfl (x_goto C (tgt := 82) dX0_lastTurnOfDivision_78 (by decide) (x_perm [1, 2, 3, 0, 5, 6, 7] rfl (w_x0_lastTurnOfDivision_j82 C E hKb h)))
set_option maxHeartbeats 4000000 in
theorem w_x0_lastTurnOfDivision_h15 {z : ZT} {ad : AD} {ek : EK} {lh : Launch} {Dh : va_G} {r : Int32} {S' : ST} (C : CX z ad ek cX0_lastTurnOfDivision RX0 lh Dh 2 10) (E : EI z (cX ad) cX0_lastTurnOfDivision (some .int) r S') : ∀ (n : Nat) (S : ST) (l1 : Int32) (l2 : Int32) (l3 : Int32) (l4 : Int32) (l5 : Int32) (l6 : Int32) (l7 : Int32), x0_lastTurnOfDivision_h15 n S l1 l2 l3 l4 l5 l6 l7 = some (r, S') → XW z (cX ad) 15 [(0, .ref (ad.1 4)), (1, .int l1), (2, .int l2), (3, .int l3), (4, .int l4), (5, .int l5), (6, .int l6), (7, .int l7)] [] S := by
  intro n
  induction n with
  | zero => intro S l1 l2 l3 l4 l5 l6 l7 h; cases h
  | succ n ih =>
    intro S l1 l2 l3 l4 l5 l6 l7 h
    have hKb := ih
    refine x_iload C dX0_lastTurnOfDivision_15 7 rfl (x_iload_n C dX0_lastTurnOfDivision_17 rfl 2 rfl (x_icmp_ge C (tgt := 139) dX0_lastTurnOfDivision_18 (by decide) (fun c => ?_) (fun c => ?_)))
    · have h := ite_t h c
      exact (by
        exact x_iload C dX0_lastTurnOfDivision_139 5 rfl (x_iret E h retI dX0_lastTurnOfDivision_141))
    · have h := ite_f h c
      obtain ⟨r27, S27, e27, h⟩ := cal_some h
      refine x_aload_n C dX0_lastTurnOfDivision_21 rfl 0 rfl (x_iload C dX0_lastTurnOfDivision_22 7 rfl (x_bipush C dX0_lastTurnOfDivision_24 kb_9 (x_iload_n C dX0_lastTurnOfDivision_26 rfl 1 rfl (x_callVi C (c_x0_isAbout e27) k_X0_50 (ci := 0) (q0 := 4) rfl rfl (by decide) (Nat.le_of_ble_eq_true rfl) rfl dX0_lastTurnOfDivision_27 (x_if_eq C (tgt := 133) dX0_lastTurnOfDivision_30 (by decide) (fun c => ?_) (fun c => ?_))))))
      · have h := ite_t h c
        exact w_x0_lastTurnOfDivision_j133 C E hKb h
      · have h := ite_f h c
        obtain ⟨g40, h⟩ := G_some h
        obtain ⟨g51, h⟩ := G_some h
        refine x_iconst C dX0_lastTurnOfDivision_33 kc_1 (x_aload_n C dX0_lastTurnOfDivision_34 rfl 0 rfl (gX_X0_7 C u_1_208 dX0_lastTurnOfDivision_35 (x_iload C dX0_lastTurnOfDivision_38 7 rfl (aX_33 C g40 dX0_lastTurnOfDivision_40 (x_ishl C dX0_lastTurnOfDivision_41 (x_istore C dX0_lastTurnOfDivision_42 (by decide) rfl (x_iload_n C dX0_lastTurnOfDivision_44 rfl 4 rfl (x_aload_n C dX0_lastTurnOfDivision_45 rfl 1 rfl (gX_X0_9 C u_1_213 dX0_lastTurnOfDivision_46 (x_iload C dX0_lastTurnOfDivision_49 8 rfl (aX_35 C g51 dX0_lastTurnOfDivision_51 (x_if_ne C (tgt := 60) dX0_lastTurnOfDivision_52 (by decide) (fun c => ?_) (fun c => ?_)))))))))))))
        · have h := ite_f h c
          exact x_iconst C dX0_lastTurnOfDivision_60 kc_0 (x_perm [1, 2, 3, 5, 6, 7, 8, 0] rfl (w_x0_lastTurnOfDivision_j61 C E hKb h))
        · have h := ite_t h c
          exact x_iload C dX0_lastTurnOfDivision_55 0 rfl (x_goto C (tgt := 61) dX0_lastTurnOfDivision_57 (by decide) (x_perm [1, 2, 3, 5, 6, 7, 8, 0] rfl (w_x0_lastTurnOfDivision_j61 C E hKb h)))
set_option maxHeartbeats 4000000 in
theorem c_x0_lastTurnOfDivision {ad : AD} {ek : EK} {lh : Launch} {Dh : va_G} {r : Int32} {S' : ST}  {S : ST} {l1 : Int32} {l2 : Int32} (h : x0_lastTurnOfDivision S l1 l2 = some (r, S')) : MXi lh Dh ad ek (cX ad) yX0_lastTurnOfDivision cX0_lastTurnOfDivision 10 (some .int) 2 [.ref (ad.1 4), .int l1, .int l2] S r S' := by
  refine mxi_of (by decide) (Nat.le_of_ble_eq_true rfl) (fun z C E => ?_)
  unfold x0_lastTurnOfDivision at h
  exact x_iconst C dX0_lastTurnOfDivision_0 kc_0 (x_istore_n C dX0_lastTurnOfDivision_1 rfl (by decide) rfl (x_iconst C dX0_lastTurnOfDivision_2 kc_0 (x_istore C dX0_lastTurnOfDivision_3 (by decide) rfl (x_bipush C dX0_lastTurnOfDivision_5 kb_m2 (x_istore C dX0_lastTurnOfDivision_7 (by decide) rfl (x_iconst C dX0_lastTurnOfDivision_9 kc_0 (x_istore C dX0_lastTurnOfDivision_10 (by decide) rfl (x_iconst C dX0_lastTurnOfDivision_12 kc_0 (x_istore C dX0_lastTurnOfDivision_13 (by decide) rfl (x_perm [5, 6, 7, 4, 3, 2, 1, 0] rfl (w_x0_lastTurnOfDivision_h15 C E FU _ _ _ _ _ _ _ _ h)))))))))))
set_option maxHeartbeats 4000000 in
theorem w_x0_sitter_j121 {z : ZT} {ad : AD} {ek : EK} {lh : Launch} {Dh : va_G} {r : Int32} {S' : ST} (C : CX z ad ek cX0_sitter RX0 lh Dh 2 8) (E : EI z (cX ad) cX0_sitter (some .int) r S') {S : ST} {l1 : Int32} {l5 : Int32} {l6 : Int32} (h : x0_sitter_j121 S l1 l5 l6 = some (r, S')) : XW z (cX ad) 121 [(0, .ref (ad.1 4)), (1, .int l1), (5, .int l5), (6, .int l6)] [] S := by
  unfold x0_sitter_j121 at h
  refine x_iload C dX0_sitter_121 3 rfl (x_iconst C dX0_sitter_123 kc_m1 (x_icmp_eq C (tgt := 143) dX0_sitter_124 (by decide) (fun c => ?_) (fun c => ?_)))
  · have h := ite_t h c
    exact x_bipush C dX0_sitter_143 kb_m2 (x_iret E h retI dX0_sitter_145)
  · have h := ite_f h c
    obtain ⟨g133, h⟩ := G_some h
    refine x_aload_n C dX0_sitter_127 rfl 0 rfl (gX_X0_3 C u_1_200 dX0_sitter_128 (x_iload C dX0_sitter_131 3 rfl (aX_29 C g133 dX0_sitter_133 (x_iload_n C dX0_sitter_134 rfl 1 rfl (x_icmp_ne C (tgt := 143) dX0_sitter_135 (by decide) (fun c => ?_) (fun c => ?_))))))
    · have h := ite_f h c
      exact x_bipush C dX0_sitter_143 kb_m2 (x_iret E h retI dX0_sitter_145)
    · have h := ite_t h c
      exact x_iload C dX0_sitter_138 2 rfl (x_goto C (tgt := 145) dX0_sitter_140 (by decide) (x_iret E h retI dX0_sitter_145))
set_option maxHeartbeats 4000000 in
theorem w_x0_sitter_j115 {z : ZT} {ad : AD} {ek : EK} {lh : Launch} {Dh : va_G} {r : Int32} {S' : ST} (C : CX z ad ek cX0_sitter RX0 lh Dh 2 8) (E : EI z (cX ad) cX0_sitter (some .int) r S') {Kb : ST → Int32 → Int32 → Int32 → Int32 → Int32 → Int32 → Option (Int32 × ST)} (hKb : ∀ (S : ST) (l1 : Int32) (l2 : Int32) (l3 : Int32) (l5 : Int32) (l6 : Int32) (l7 : Int32) , Kb S l1 l2 l3 l5 l6 l7 = some (r, S') → XW z (cX ad) 75 [(0, .ref (ad.1 4)), (1, .int l1), (2, .int l2), (3, .int l3), (5, .int l5), (6, .int l6), (7, .int l7)] [] S) {K121 : ST → Int32 → Int32 → Int32 → Option (Int32 × ST)} (hK121 : ∀ (S : ST) (l1 : Int32) (l5 : Int32) (l6 : Int32) , K121 S l1 l5 l6 = some (r, S') → XW z (cX ad) 121 [(0, .ref (ad.1 4)), (1, .int l1), (5, .int l5), (6, .int l6)] [] S) {S : ST} {l1 : Int32} {l2 : Int32} {l3 : Int32} {l5 : Int32} {l6 : Int32} {l7 : Int32} (h : x0_sitter_j115 Kb K121 S l1 l2 l3 l5 l6 l7 = some (r, S')) : XW z (cX ad) 115 [(0, .ref (ad.1 4)), (1, .int l1), (2, .int l2), (3, .int l3), (5, .int l5), (6, .int l6), (7, .int l7)] [] S := by
  unfold x0_sitter_j115 at h
  exact x_iinc C dX0_sitter_115 6 rfl ki_1 (by decide) rfl (x_goto C (tgt := 75) dX0_sitter_118 (by decide) (x_perm [1, 2, 3, 4, 5, 6, 0] rfl (hKb _ _ _ _ _ _ _ h)))
set_option maxHeartbeats 4000000 in
theorem w_x0_sitter_h75 {z : ZT} {ad : AD} {ek : EK} {lh : Launch} {Dh : va_G} {r : Int32} {S' : ST} (C : CX z ad ek cX0_sitter RX0 lh Dh 2 8) (E : EI z (cX ad) cX0_sitter (some .int) r S') {K121 : ST → Int32 → Int32 → Int32 → Option (Int32 × ST)} (hK121 : ∀ (S : ST) (l1 : Int32) (l5 : Int32) (l6 : Int32) , K121 S l1 l5 l6 = some (r, S') → XW z (cX ad) 121 [(0, .ref (ad.1 4)), (1, .int l1), (5, .int l5), (6, .int l6)] [] S) : ∀ (n : Nat) (S : ST) (l1 : Int32) (l2 : Int32) (l3 : Int32) (l5 : Int32) (l6 : Int32) (l7 : Int32), x0_sitter_h75 K121 n S l1 l2 l3 l5 l6 l7 = some (r, S') → XW z (cX ad) 75 [(0, .ref (ad.1 4)), (1, .int l1), (2, .int l2), (3, .int l3), (5, .int l5), (6, .int l6), (7, .int l7)] [] S := by
  intro n
  induction n with
  | zero => intro S l1 l2 l3 l5 l6 l7 h; cases h
  | succ n ih =>
    intro S l1 l2 l3 l5 l6 l7 h
    have hKb := ih
    refine x_iload C dX0_sitter_75 6 rfl (x_iload_n C dX0_sitter_77 rfl 3 rfl (x_icmp_ge C (tgt := 121) dX0_sitter_78 (by decide) (fun c => ?_) (fun c => ?_)))
    · have h := ite_t h c
      exact x_perm [0, 1, 4, 5] rfl (hK121 _ _ _ _ h)
    · have h := ite_f h c
      obtain ⟨g87, h⟩ := G_some h
      refine x_aload_n C dX0_sitter_81 rfl 0 rfl (gX_X0_0 C u_1_189 dX0_sitter_82 (x_iload C dX0_sitter_85 6 rfl (aX_26 C g87 dX0_sitter_87 (x_iconst C dX0_sitter_88 kc_5 (x_icmp_ne C (tgt := 115) dX0_sitter_89 (by decide) (fun c => ?_) (fun c => ?_))))))
      · have h := ite_f h c
        exact w_x0_sitter_j115 C E hKb hK121 h
      · have h := ite_t h c
        obtain ⟨g98, h⟩ := G_some h
        refine x_aload_n C dX0_sitter_92 rfl 0 rfl (gX_X0_7 C u_1_208 dX0_sitter_93 (x_iload C dX0_sitter_96 6 rfl (aX_33 C g98 dX0_sitter_98 (x_iload C dX0_sitter_99 4 rfl (x_icmp_ne C (tgt := 115) dX0_sitter_101 (by decide) (fun c => ?_) (fun c => ?_))))))
        · have h := ite_f h c
          exact w_x0_sitter_j115 C E hKb hK121 h
        · have h := ite_t h c
          obtain ⟨r110, S110, e110, h⟩ := cal_some h
          exact x_aload_n C dX0_sitter_104 rfl 0 rfl (x_iload C dX0_sitter_105 5 rfl (x_iload C dX0_sitter_107 6 rfl (x_iload_n C dX0_sitter_109 rfl 2 rfl (x_callVi C (c_x0_laterOf e110) k_X0_46 (ci := 0) (q0 := 4) rfl rfl (by decide) (Nat.le_of_ble_eq_true rfl) rfl dX0_sitter_110 (x_istore C dX0_sitter_113 (by decide) rfl (x_perm [1, 2, 3, 4, 5, 0, 6] rfl (w_x0_sitter_j115 C E hKb hK121 h)))))))
set_option maxHeartbeats 4000000 in
theorem w_x0_sitter_j51 {z : ZT} {ad : AD} {ek : EK} {lh : Launch} {Dh : va_G} {r : Int32} {S' : ST} (C : CX z ad ek cX0_sitter RX0 lh Dh 2 8) (E : EI z (cX ad) cX0_sitter (some .int) r S') {S : ST} {l1 : Int32} {l2 : Int32} {l3 : Int32} {l4 : Int32} (h : x0_sitter_j51 S l1 l2 l3 l4 = some (r, S')) : XW z (cX ad) 51 [(0, .ref (ad.1 4)), (1, .int l1), (2, .int l2), (3, .int l3), (4, .int l4)] [] S := by
  unfold x0_sitter_j51 at h
  refine x_iload C dX0_sitter_51 4 rfl (x_iconst C dX0_sitter_53 kc_m1 (x_icmp_ne C (tgt := 60) dX0_sitter_54 (by decide) (fun c => ?_) (fun c => ?_)))
  · have h := ite_f h c
    obtain ⟨g66, h⟩ := G_some h
    exact x_aload_n C dX0_sitter_60 rfl 0 rfl (gX_X0_7 C u_1_208 dX0_sitter_61 (x_iload C dX0_sitter_64 4 rfl (aX_33 C g66 dX0_sitter_66 (x_istore C dX0_sitter_67 (by decide) rfl (x_iconst C dX0_sitter_69 kc_m1 (x_istore C dX0_sitter_70 (by decide) rfl (x_iconst C dX0_sitter_72 kc_0 (x_istore C dX0_sitter_73 (by decide) rfl (x_perm [3, 4, 5, 6, 2, 1, 0] rfl (w_x0_sitter_h75 C E (fun _ _ _ _ h => w_x0_sitter_j121 C E  h) FU _ _ _ _ _ _ _ h))))))))))
  · have h := ite_t h c
    exact x_bipush C dX0_sitter_57 kb_m2 (x_iret E h retI dX0_sitter_59)
set_option maxHeartbeats 4000000 in
theorem w_x0_sitter_j45 {z : ZT} {ad : AD} {ek : EK} {lh : Launch} {Dh : va_G} {r : Int32} {S' : ST} (C : CX z ad ek cX0_sitter RX0 lh Dh 2 8) (E : EI z (cX ad) cX0_sitter (some .int) r S') {Kb : ST → Int32 → Int32 → Int32 → Int32 → Int32 → Option (Int32 × ST)} (hKb : ∀ (S : ST) (l1 : Int32) (l2 : Int32) (l3 : Int32) (l4 : Int32) (l5 : Int32) , Kb S l1 l2 l3 l4 l5 = some (r, S') → XW z (cX ad) 6 [(0, .ref (ad.1 4)), (1, .int l1), (2, .int l2), (3, .int l3), (4, .int l4), (5, .int l5)] [] S) {K51 : ST → Int32 → Int32 → Int32 → Int32 → Option (Int32 × ST)} (hK51 : ∀ (S : ST) (l1 : Int32) (l2 : Int32) (l3 : Int32) (l4 : Int32) , K51 S l1 l2 l3 l4 = some (r, S') → XW z (cX ad) 51 [(0, .ref (ad.1 4)), (1, .int l1), (2, .int l2), (3, .int l3), (4, .int l4)] [] S) {S : ST} {l1 : Int32} {l2 : Int32} {l3 : Int32} {l4 : Int32} {l5 : Int32} (h : x0_sitter_j45 Kb K51 S l1 l2 l3 l4 l5 = some (r, S')) : XW z (cX ad) 45 [(0, .ref (ad.1 4)), (1, .int l1), (2, .int l2), (3, .int l3), (4, .int l4), (5, .int l5)] [] S := by
  unfold x0_sitter_j45 at h
  exact x_iinc C dX0_sitter_45 5 rfl ki_1 (by decide) rfl (x_goto C (tgt := 6) dX0_sitter_48 (by decide) (x_perm [1, 2, 3, 4, 5, 0] rfl (hKb _ _ _ _ _ _ h)))
set_option maxHeartbeats 4000000 in
theorem w_x0_sitter_h6 {z : ZT} {ad : AD} {ek : EK} {lh : Launch} {Dh : va_G} {r : Int32} {S' : ST} (C : CX z ad ek cX0_sitter RX0 lh Dh 2 8) (E : EI z (cX ad) cX0_sitter (some .int) r S') {K51 : ST → Int32 → Int32 → Int32 → Int32 → Option (Int32 × ST)} (hK51 : ∀ (S : ST) (l1 : Int32) (l2 : Int32) (l3 : Int32) (l4 : Int32) , K51 S l1 l2 l3 l4 = some (r, S') → XW z (cX ad) 51 [(0, .ref (ad.1 4)), (1, .int l1), (2, .int l2), (3, .int l3), (4, .int l4)] [] S) : ∀ (n : Nat) (S : ST) (l1 : Int32) (l2 : Int32) (l3 : Int32) (l4 : Int32) (l5 : Int32), x0_sitter_h6 K51 n S l1 l2 l3 l4 l5 = some (r, S') → XW z (cX ad) 6 [(0, .ref (ad.1 4)), (1, .int l1), (2, .int l2), (3, .int l3), (4, .int l4), (5, .int l5)] [] S := by
  intro n
  induction n with
  | zero => intro S l1 l2 l3 l4 l5 h; cases h
  | succ n ih =>
    intro S l1 l2 l3 l4 l5 h
    have hKb := ih
    refine x_iload C dX0_sitter_6 5 rfl (x_iload_n C dX0_sitter_8 rfl 3 rfl (x_icmp_ge C (tgt := 51) dX0_sitter_9 (by decide) (fun c => ?_) (fun c => ?_)))
    · have h := ite_t h c
      exact x_perm [0, 1, 2, 3, 4] rfl (hK51 _ _ _ _ _ h)
    · have h := ite_f h c
      obtain ⟨g18, h⟩ := G_some h
      refine x_aload_n C dX0_sitter_12 rfl 0 rfl (gX_X0_0 C u_1_189 dX0_sitter_13 (x_iload C dX0_sitter_16 5 rfl (aX_26 C g18 dX0_sitter_18 (x_iconst C dX0_sitter_19 kc_5 (x_icmp_ne C (tgt := 45) dX0_sitter_20 (by decide) (fun c => ?_) (fun c => ?_))))))
      · have h := ite_f h c
        exact w_x0_sitter_j45 C E hKb hK51 h
      · have h := ite_t h c
        obtain ⟨g29, h⟩ := G_some h
        refine x_aload_n C dX0_sitter_23 rfl 0 rfl (gX_X0_3 C u_1_200 dX0_sitter_24 (x_iload C dX0_sitter_27 5 rfl (aX_29 C g29 dX0_sitter_29 (x_iload_n C dX0_sitter_30 rfl 1 rfl (x_icmp_ne C (tgt := 45) dX0_sitter_31 (by decide) (fun c => ?_) (fun c => ?_))))))
        · have h := ite_f h c
          exact w_x0_sitter_j45 C E hKb hK51 h
        · have h := ite_t h c
          obtain ⟨r40, S40, e40, h⟩ := cal_some h
          exact x_aload_n C dX0_sitter_34 rfl 0 rfl (x_iload C dX0_sitter_35 4 rfl (x_iload C dX0_sitter_37 5 rfl (x_iload_n C dX0_sitter_39 rfl 2 rfl (x_callVi C (c_x0_laterOf e40) k_X0_46 (ci := 0) (q0 := 4) rfl rfl (by decide) (Nat.le_of_ble_eq_true rfl) rfl dX0_sitter_40 (x_istore C dX0_sitter_43 (by decide) rfl (x_perm [1, 2, 3, 4, 0, 5] rfl (w_x0_sitter_j45 C E hKb hK51 h)))))))
set_option maxHeartbeats 4000000 in
theorem c_x0_sitter {ad : AD} {ek : EK} {lh : Launch} {Dh : va_G} {r : Int32} {S' : ST}  {S : ST} {l1 : Int32} {l2 : Int32} {l3 : Int32} (h : x0_sitter S l1 l2 l3 = some (r, S')) : MXi lh Dh ad ek (cX ad) yX0_sitter cX0_sitter 8 (some .int) 2 [.ref (ad.1 4), .int l1, .int l2, .int l3] S r S' := by
  refine mxi_of (by decide) (Nat.le_of_ble_eq_true rfl) (fun z C E => ?_)
  unfold x0_sitter at h
  exact x_iconst C dX0_sitter_0 kc_m1 (x_istore C dX0_sitter_1 (by decide) rfl (x_iconst C dX0_sitter_3 kc_0 (x_istore C dX0_sitter_4 (by decide) rfl (x_perm [2, 3, 4, 5, 1, 0] rfl (w_x0_sitter_h6 C E (fun _ _ _ _ _ h => w_x0_sitter_j51 C E  h) FU _ _ _ _ _ _ h)))))
set_option maxHeartbeats 4000000 in
theorem w_x0_voters_j49 {z : ZT} {ad : AD} {ek : EK} {lh : Launch} {Dh : va_G} {r : Int32} {S' : ST} (C : CX z ad ek cX0_voters RX0 lh Dh 2 6) (E : EI z (cX ad) cX0_voters (some .int) r S') {Kb : ST → Int32 → Int32 → Int32 → Int32 → Int32 → Option (Int32 × ST)} (hKb : ∀ (S : ST) (l1 : Int32) (l2 : Int32) (l3 : Int32) (l4 : Int32) (l5 : Int32) , Kb S l1 l2 l3 l4 l5 = some (r, S') → XW z (cX ad) 6 [(0, .ref (ad.1 4)), (1, .int l1), (2, .int l2), (3, .int l3), (4, .int l4), (5, .int l5)] [] S) {S : ST} {l1 : Int32} {l2 : Int32} {l3 : Int32} {l4 : Int32} {l5 : Int32} (h : x0_voters_j49 Kb S l1 l2 l3 l4 l5 = some (r, S')) : XW z (cX ad) 49 [(0, .ref (ad.1 4)), (1, .int l1), (2, .int l2), (3, .int l3), (4, .int l4), (5, .int l5)] [] S := by
  unfold x0_voters_j49 at h
  exact x_iinc C dX0_voters_49 5 rfl ki_1 (by decide) rfl (x_goto C (tgt := 6) dX0_voters_52 (by decide) (x_perm [1, 2, 3, 4, 5, 0] rfl (hKb _ _ _ _ _ _ h)))
set_option maxHeartbeats 4000000 in
theorem w_x0_voters_h6 {z : ZT} {ad : AD} {ek : EK} {lh : Launch} {Dh : va_G} {r : Int32} {S' : ST} (C : CX z ad ek cX0_voters RX0 lh Dh 2 6) (E : EI z (cX ad) cX0_voters (some .int) r S') : ∀ (n : Nat) (S : ST) (l1 : Int32) (l2 : Int32) (l3 : Int32) (l4 : Int32) (l5 : Int32), x0_voters_h6 n S l1 l2 l3 l4 l5 = some (r, S') → XW z (cX ad) 6 [(0, .ref (ad.1 4)), (1, .int l1), (2, .int l2), (3, .int l3), (4, .int l4), (5, .int l5)] [] S := by
  intro n
  induction n with
  | zero => intro S l1 l2 l3 l4 l5 h; cases h
  | succ n ih =>
    intro S l1 l2 l3 l4 l5 h
    have hKb := ih
    refine x_iload C dX0_voters_6 5 rfl (x_iload_n C dX0_voters_8 rfl 3 rfl (x_icmp_ge C (tgt := 55) dX0_voters_9 (by decide) (fun c => ?_) (fun c => ?_)))
    · have h := ite_t h c
      exact (by
        exact x_iload C dX0_voters_55 4 rfl (x_iret E h retI dX0_voters_57))
    · have h := ite_f h c
      obtain ⟨r18, S18, e18, h⟩ := cal_some h
      refine x_aload_n C dX0_voters_12 rfl 0 rfl (x_iload C dX0_voters_13 5 rfl (x_bipush C dX0_voters_15 kb_9 (x_iload_n C dX0_voters_17 rfl 1 rfl (x_callVi C (c_x0_isAbout e18) k_X0_50 (ci := 0) (q0 := 4) rfl rfl (by decide) (Nat.le_of_ble_eq_true rfl) rfl dX0_voters_18 (x_if_eq C (tgt := 49) dX0_voters_21 (by decide) (fun c => ?_) (fun c => ?_))))))
      · have h := ite_t h c
        exact w_x0_voters_j49 C E hKb h
      · have h := ite_f h c
        obtain ⟨g30, h⟩ := G_some h
        refine x_aload_n C dX0_voters_24 rfl 0 rfl (gX_X0_9 C u_1_213 dX0_voters_25 (x_iload C dX0_voters_28 5 rfl (aX_35 C g30 dX0_voters_30 (x_iload_n C dX0_voters_31 rfl 2 rfl (x_icmp_ne C (tgt := 49) dX0_voters_32 (by decide) (fun c => ?_) (fun c => ?_))))))
        · have h := ite_f h c
          exact w_x0_voters_j49 C E hKb h
        · have h := ite_t h c
          obtain ⟨g44, h⟩ := G_some h
          exact x_iload C dX0_voters_35 4 rfl (x_iconst C dX0_voters_37 kc_1 (x_aload_n C dX0_voters_38 rfl 0 rfl (gX_X0_7 C u_1_208 dX0_voters_39 (x_iload C dX0_voters_42 5 rfl (aX_33 C g44 dX0_voters_44 (x_ishl C dX0_voters_45 (x_ior C dX0_voters_46 (x_istore C dX0_voters_47 (by decide) rfl (x_perm [1, 2, 3, 4, 0, 5] rfl (w_x0_voters_j49 C E hKb h))))))))))
set_option maxHeartbeats 4000000 in
theorem c_x0_voters {ad : AD} {ek : EK} {lh : Launch} {Dh : va_G} {r : Int32} {S' : ST}  {S : ST} {l1 : Int32} {l2 : Int32} {l3 : Int32} (h : x0_voters S l1 l2 l3 = some (r, S')) : MXi lh Dh ad ek (cX ad) yX0_voters cX0_voters 6 (some .int) 2 [.ref (ad.1 4), .int l1, .int l2, .int l3] S r S' := by
  refine mxi_of (by decide) (Nat.le_of_ble_eq_true rfl) (fun z C E => ?_)
  unfold x0_voters at h
  exact x_iconst C dX0_voters_0 kc_0 (x_istore C dX0_voters_1 (by decide) rfl (x_iconst C dX0_voters_3 kc_0 (x_istore C dX0_voters_4 (by decide) rfl (x_perm [2, 3, 4, 5, 1, 0] rfl (w_x0_voters_h6 C E FU _ _ _ _ _ _ h)))))
set_option maxHeartbeats 4000000 in
theorem w_x10_cutDigits_j55 {z : ZT} {ad : AD} {ek : EK} {lh : Launch} {Dh : va_G} {r : Int32} {S' : ST} (C : CX z ad ek cX10_cutDigits RX10 lh Dh 2 5) (E : EI z (cX ad) cX10_cutDigits (some .int) r S') {S : ST} {l2 : Int32} {l3 : Int32} {l4 : Int32} (h : x10_cutDigits_j55 S l2 l3 l4 = some (r, S')) : XW z (cX ad) 55 [(0, .ref (ad.1 11)), (2, .int l2), (3, .int l3), (4, .int l4)] [] S := by
  unfold x10_cutDigits_j55 at h
  refine x_iload C dX10_cutDigits_55 3 rfl (x_iload_n C dX10_cutDigits_57 rfl 1 rfl (x_isub C dX10_cutDigits_58 (x_iconst C dX10_cutDigits_59 kc_4 (x_icmp_le C (tgt := 72) dX10_cutDigits_60 (by decide) (fun c => ?_) (fun c => ?_)))))
  · have h := ite_t h c
    obtain ⟨g82, h⟩ := G_some h
    obtain ⟨r88, S88, e88, h⟩ := cal_some h
    exact x_aload_n C dX10_cutDigits_72 rfl 0 rfl (gX_X10_2 C u_1_138 dX10_cutDigits_73 (x_aload_n C dX10_cutDigits_76 rfl 0 rfl (gX_X10_3 C u_1_140 dX10_cutDigits_77 (x_iload_n C dX10_cutDigits_80 rfl 2 rfl (x_i2l C dX10_cutDigits_81 (sX_50 C g82 dX10_cutDigits_82 (x_aload_n C dX10_cutDigits_83 rfl 0 rfl (x_bipush C dX10_cutDigits_84 kb_25 (x_iload C dX10_cutDigits_86 3 rfl (x_callVi C (c_x10_keep e88) k_X10_39 (ci := 10) (q0 := 11) rfl rfl (by decide) (Nat.le_of_ble_eq_true rfl) rfl dX10_cutDigits_88 (x_iret E h retI dX10_cutDigits_91)))))))))))
  · have h := ite_f h c
    obtain ⟨r68, S68, e68, h⟩ := cal_some h
    exact x_aload_n C dX10_cutDigits_63 rfl 0 rfl (x_bipush C dX10_cutDigits_64 kb_38 (x_iload C dX10_cutDigits_66 3 rfl (x_callVi C (c_x10_keep e68) k_X10_39 (ci := 10) (q0 := 11) rfl rfl (by decide) (Nat.le_of_ble_eq_true rfl) rfl dX10_cutDigits_68 (x_iret E h retI dX10_cutDigits_71))))
set_option maxHeartbeats 4000000 in
theorem w_x10_cutDigits_j49 {z : ZT} {ad : AD} {ek : EK} {lh : Launch} {Dh : va_G} {r : Int32} {S' : ST} (C : CX z ad ek cX10_cutDigits RX10 lh Dh 2 5) (E : EI z (cX ad) cX10_cutDigits (some .int) r S') {Kb : ST → Int32 → Int32 → Int32 → Option (Int32 × ST)} (hKb : ∀ (S : ST) (l2 : Int32) (l3 : Int32) (l4 : Int32) , Kb S l2 l3 l4 = some (r, S') → XW z (cX ad) 5 [(0, .ref (ad.1 11)), (1, .ref (ad.1 1)), (2, .int l2), (3, .int l3), (4, .int l4)] [] S) {K55 : ST → Int32 → Int32 → Int32 → Option (Int32 × ST)} (hK55 : ∀ (S : ST) (l2 : Int32) (l3 : Int32) (l4 : Int32) , K55 S l2 l3 l4 = some (r, S') → XW z (cX ad) 55 [(0, .ref (ad.1 11)), (2, .int l2), (3, .int l3), (4, .int l4)] [] S) {S : ST} {l2 : Int32} {l3 : Int32} {l4 : Int32} (h : x10_cutDigits_j49 Kb K55 S l2 l3 l4 = some (r, S')) : XW z (cX ad) 49 [(0, .ref (ad.1 11)), (1, .ref (ad.1 1)), (2, .int l2), (3, .int l3), (4, .int l4)] [] S := by
  unfold x10_cutDigits_j49 at h
  exact x_iinc C dX10_cutDigits_49 4 rfl ki_1 (by decide) rfl (x_goto C (tgt := 5) dX10_cutDigits_52 (by decide) (x_perm [1, 2, 3, 4, 0] rfl (hKb _ _ _ _ h)))
set_option maxHeartbeats 4000000 in
theorem w_x10_cutDigits_h5 {z : ZT} {ad : AD} {ek : EK} {lh : Launch} {Dh : va_G} {r : Int32} {S' : ST} (C : CX z ad ek cX10_cutDigits RX10 lh Dh 2 5) (E : EI z (cX ad) cX10_cutDigits (some .int) r S') {K55 : ST → Int32 → Int32 → Int32 → Option (Int32 × ST)} (hK55 : ∀ (S : ST) (l2 : Int32) (l3 : Int32) (l4 : Int32) , K55 S l2 l3 l4 = some (r, S') → XW z (cX ad) 55 [(0, .ref (ad.1 11)), (2, .int l2), (3, .int l3), (4, .int l4)] [] S) : ∀ (n : Nat) (S : ST) (l2 : Int32) (l3 : Int32) (l4 : Int32), x10_cutDigits_h5 K55 n S l2 l3 l4 = some (r, S') → XW z (cX ad) 5 [(0, .ref (ad.1 11)), (1, .ref (ad.1 1)), (2, .int l2), (3, .int l3), (4, .int l4)] [] S := by
  intro n
  induction n with
  | zero => intro S l2 l3 l4 h; cases h
  | succ n ih =>
    intro S l2 l3 l4 h
    have hKb := ih
    refine x_iload C dX10_cutDigits_5 4 rfl (x_aload_n C dX10_cutDigits_7 rfl 1 rfl (gX_X9_1 C u_1_38 dX10_cutDigits_8 (x_icmp_ge C (tgt := 55) dX10_cutDigits_11 (by decide) (fun c => ?_) (fun c => ?_))))
    · have h := ite_t h c
      exact x_perm [0, 2, 3, 4] rfl (hK55 _ _ _ _ h)
    · have h := ite_f h c
      obtain ⟨r17, S17, e17, h⟩ := cal_some h
      obtain ⟨r20, e20, h⟩ := cal0_some h
      refine x_aload_n C dX10_cutDigits_14 rfl 1 rfl (x_iload C dX10_cutDigits_15 4 rfl (x_callVi C (c_x9_byteAt e17) k_X10_36 (ci := 9) (q0 := 1) rfl rfl (by decide) (Nat.le_of_ble_eq_true rfl) rfl dX10_cutDigits_17 (x_callSi C (c_x10_isDigit e20) k_X10_50 (by decide) (Nat.le_of_ble_eq_true rfl) rfl dX10_cutDigits_20 (x_if_eq C (tgt := 55) dX10_cutDigits_23 (by decide) (fun c => ?_) (fun c => ?_)))))
      · have h := ite_t h c
        exact x_perm [0, 2, 3, 4] rfl (hK55 _ _ _ _ h)
      · have h := ite_f h c
        refine x_iload C dX10_cutDigits_26 4 rfl (x_iload_n C dX10_cutDigits_28 rfl 2 rfl (x_isub C dX10_cutDigits_29 (x_iconst C dX10_cutDigits_30 kc_4 (x_icmp_ge C (tgt := 49) dX10_cutDigits_31 (by decide) (fun c => ?_) (fun c => ?_)))))
        · have h := ite_t h c
          exact w_x10_cutDigits_j49 C E hKb hK55 h
        · have h := ite_f h c
          obtain ⟨r41, S41, e41, h⟩ := cal_some h
          exact x_iload_n C dX10_cutDigits_34 rfl 3 rfl (x_bipush C dX10_cutDigits_35 kb_10 (x_imul C dX10_cutDigits_37 (x_aload_n C dX10_cutDigits_38 rfl 1 rfl (x_iload C dX10_cutDigits_39 4 rfl (x_callVi C (c_x9_byteAt e41) k_X10_36 (ci := 9) (q0 := 1) rfl rfl (by decide) (Nat.le_of_ble_eq_true rfl) rfl dX10_cutDigits_41 (x_iadd C dX10_cutDigits_44 (x_bipush C dX10_cutDigits_45 kb_48 (x_isub C dX10_cutDigits_47 (x_istore_n C dX10_cutDigits_48 rfl (by decide) rfl (x_perm [1, 2, 3, 0, 4] rfl (w_x10_cutDigits_j49 C E hKb hK55 h)))))))))))
set_option maxHeartbeats 4000000 in
theorem c_x10_cutDigits {ad : AD} {ek : EK} {lh : Launch} {Dh : va_G} {r : Int32} {S' : ST}  {S : ST} {l2 : Int32} (h : x10_cutDigits S l2 = some (r, S')) : MXi lh Dh ad ek (cX ad) yX10_cutDigits cX10_cutDigits 5 (some .int) 2 [.ref (ad.1 11), .ref (ad.1 1), .int l2] S r S' := by
  refine mxi_of (by decide) (Nat.le_of_ble_eq_true rfl) (fun z C E => ?_)
  unfold x10_cutDigits at h
  exact x_iconst C dX10_cutDigits_0 kc_0 (x_istore_n C dX10_cutDigits_1 rfl (by decide) rfl (x_iload_n C dX10_cutDigits_2 rfl 3 rfl (x_istore C dX10_cutDigits_3 (by decide) rfl (x_perm [2, 3, 4, 1, 0] rfl (w_x10_cutDigits_h5 C E (fun _ _ _ _ h => w_x10_cutDigits_j55 C E  h) FU _ _ _ _ h)))))
set_option maxHeartbeats 4000000 in
theorem c_x10_cutSign {ad : AD} {ek : EK} {lh : Launch} {Dh : va_G} {r : Int32} {S' : ST}  {S : ST} {l1 : Int32} {l2 : Int32} {l3 : Int32} (h : x10_cutSign S l1 l2 l3 = some (r, S')) : MXi lh Dh ad ek (cX ad) yX10_cutSign cX10_cutSign 4 (some .int) 2 [.ref (ad.1 11), .int l1, .int l2, .int l3] S r S' := by
  refine mxi_of (by decide) (Nat.le_of_ble_eq_true rfl) (fun z C E => ?_)
  unfold x10_cutSign at h
  refine x_iload_n C dX10_cutSign_0 rfl 1 rfl (?_)
  refine x_case 33 (fun c33 => ?_) (fun c33 => ?_)
  · have h := ite_t h c33
    refine x_table C (tgt := 247) dX10_cutSign_1 (by decide) (by rw [c33]; decide) ?_
    refine x_aload_n C dX10_cutSign_247 rfl 0 rfl (x_iload_n C dX10_cutSign_248 rfl 2 rfl (x_if_eq C (tgt := 257) dX10_cutSign_249 (by decide) (fun c => ?_) (fun c => ?_)))
    · have h := ite_t h c
      obtain ⟨r262, S262, e262, h⟩ := cal_some h
      exact x_bipush C dX10_cutSign_257 kb_38 (x_iload_n C dX10_cutSign_259 rfl 3 rfl (x_iconst C dX10_cutSign_260 kc_2 (x_iadd C dX10_cutSign_261 (x_callVi C (c_x10_keep e262) k_X10_39 (ci := 10) (q0 := 11) rfl rfl (by decide) (Nat.le_of_ble_eq_true rfl) rfl dX10_cutSign_262 (x_iret E h retI dX10_cutSign_265)))))
    · have h := ite_f h c
      obtain ⟨r262, S262, e262, h⟩ := cal_some h
      exact x_bipush C dX10_cutSign_252 kb_32 (x_goto C (tgt := 259) dX10_cutSign_254 (by decide) (x_iload_n C dX10_cutSign_259 rfl 3 rfl (x_iconst C dX10_cutSign_260 kc_2 (x_iadd C dX10_cutSign_261 (x_callVi C (c_x10_keep e262) k_X10_39 (ci := 10) (q0 := 11) rfl rfl (by decide) (Nat.le_of_ble_eq_true rfl) rfl dX10_cutSign_262 (x_iret E h retI dX10_cutSign_265))))))
  · have h := ite_f h c33
    refine x_case 40 (fun c40 => ?_) (fun c40 => ?_)
    · have h := ite_t h c40
      refine x_table C (tgt := 182) dX10_cutSign_1 (by decide) (by rw [c40]; decide) ?_
      obtain ⟨r188, S188, e188, h⟩ := cal_some h
      exact x_aload_n C dX10_cutSign_182 rfl 0 rfl (x_bipush C dX10_cutSign_183 kb_35 (x_iload_n C dX10_cutSign_185 rfl 3 rfl (x_iconst C dX10_cutSign_186 kc_1 (x_iadd C dX10_cutSign_187 (x_callVi C (c_x10_keep e188) k_X10_39 (ci := 10) (q0 := 11) rfl rfl (by decide) (Nat.le_of_ble_eq_true rfl) rfl dX10_cutSign_188 (x_iret E h retI dX10_cutSign_191))))))
    · have h := ite_f h c40
      refine x_case 41 (fun c41 => ?_) (fun c41 => ?_)
      · have h := ite_t h c41
        refine x_table C (tgt := 192) dX10_cutSign_1 (by decide) (by rw [c41]; decide) ?_
        obtain ⟨r198, S198, e198, h⟩ := cal_some h
        exact x_aload_n C dX10_cutSign_192 rfl 0 rfl (x_bipush C dX10_cutSign_193 kb_36 (x_iload_n C dX10_cutSign_195 rfl 3 rfl (x_iconst C dX10_cutSign_196 kc_1 (x_iadd C dX10_cutSign_197 (x_callVi C (c_x10_keep e198) k_X10_39 (ci := 10) (q0 := 11) rfl rfl (by decide) (Nat.le_of_ble_eq_true rfl) rfl dX10_cutSign_198 (x_iret E h retI dX10_cutSign_201))))))
      · have h := ite_f h c41
        refine x_case 42 (fun c42 => ?_) (fun c42 => ?_)
        · have h := ite_t h c42
          refine x_table C (tgt := 162) dX10_cutSign_1 (by decide) (by rw [c42]; decide) ?_
          obtain ⟨r168, S168, e168, h⟩ := cal_some h
          exact x_aload_n C dX10_cutSign_162 rfl 0 rfl (x_bipush C dX10_cutSign_163 kb_29 (x_iload_n C dX10_cutSign_165 rfl 3 rfl (x_iconst C dX10_cutSign_166 kc_1 (x_iadd C dX10_cutSign_167 (x_callVi C (c_x10_keep e168) k_X10_39 (ci := 10) (q0 := 11) rfl rfl (by decide) (Nat.le_of_ble_eq_true rfl) rfl dX10_cutSign_168 (x_iret E h retI dX10_cutSign_171))))))
        · have h := ite_f h c42
          refine x_case 43 (fun c43 => ?_) (fun c43 => ?_)
          · have h := ite_t h c43
            refine x_table C (tgt := 142) dX10_cutSign_1 (by decide) (by rw [c43]; decide) ?_
            obtain ⟨r148, S148, e148, h⟩ := cal_some h
            exact x_aload_n C dX10_cutSign_142 rfl 0 rfl (x_bipush C dX10_cutSign_143 kb_27 (x_iload_n C dX10_cutSign_145 rfl 3 rfl (x_iconst C dX10_cutSign_146 kc_1 (x_iadd C dX10_cutSign_147 (x_callVi C (c_x10_keep e148) k_X10_39 (ci := 10) (q0 := 11) rfl rfl (by decide) (Nat.le_of_ble_eq_true rfl) rfl dX10_cutSign_148 (x_iret E h retI dX10_cutSign_151))))))
          · have h := ite_f h c43
            refine x_case 45 (fun c45 => ?_) (fun c45 => ?_)
            · have h := ite_t h c45
              refine x_table C (tgt := 152) dX10_cutSign_1 (by decide) (by rw [c45]; decide) ?_
              obtain ⟨r158, S158, e158, h⟩ := cal_some h
              exact x_aload_n C dX10_cutSign_152 rfl 0 rfl (x_bipush C dX10_cutSign_153 kb_28 (x_iload_n C dX10_cutSign_155 rfl 3 rfl (x_iconst C dX10_cutSign_156 kc_1 (x_iadd C dX10_cutSign_157 (x_callVi C (c_x10_keep e158) k_X10_39 (ci := 10) (q0 := 11) rfl rfl (by decide) (Nat.le_of_ble_eq_true rfl) rfl dX10_cutSign_158 (x_iret E h retI dX10_cutSign_161))))))
            · have h := ite_f h c45
              refine x_case 47 (fun c47 => ?_) (fun c47 => ?_)
              · have h := ite_t h c47
                refine x_table C (tgt := 172) dX10_cutSign_1 (by decide) (by rw [c47]; decide) ?_
                obtain ⟨r178, S178, e178, h⟩ := cal_some h
                exact x_aload_n C dX10_cutSign_172 rfl 0 rfl (x_bipush C dX10_cutSign_173 kb_30 (x_iload_n C dX10_cutSign_175 rfl 3 rfl (x_iconst C dX10_cutSign_176 kc_1 (x_iadd C dX10_cutSign_177 (x_callVi C (c_x10_keep e178) k_X10_39 (ci := 10) (q0 := 11) rfl rfl (by decide) (Nat.le_of_ble_eq_true rfl) rfl dX10_cutSign_178 (x_iret E h retI dX10_cutSign_181))))))
              · have h := ite_f h c47
                refine x_case 59 (fun c59 => ?_) (fun c59 => ?_)
                · have h := ite_t h c59
                  refine x_table C (tgt := 132) dX10_cutSign_1 (by decide) (by rw [c59]; decide) ?_
                  obtain ⟨r138, S138, e138, h⟩ := cal_some h
                  exact x_aload_n C dX10_cutSign_132 rfl 0 rfl (x_bipush C dX10_cutSign_133 kb_26 (x_iload_n C dX10_cutSign_135 rfl 3 rfl (x_iconst C dX10_cutSign_136 kc_1 (x_iadd C dX10_cutSign_137 (x_callVi C (c_x10_keep e138) k_X10_39 (ci := 10) (q0 := 11) rfl rfl (by decide) (Nat.le_of_ble_eq_true rfl) rfl dX10_cutSign_138 (x_iret E h retI dX10_cutSign_141))))))
                · have h := ite_f h c59
                  refine x_case 60 (fun c60 => ?_) (fun c60 => ?_)
                  · have h := ite_t h c60
                    refine x_table C (tgt := 202) dX10_cutSign_1 (by decide) (by rw [c60]; decide) ?_
                    refine x_iload_n C dX10_cutSign_202 rfl 2 rfl (x_if_eq C (tgt := 218) dX10_cutSign_203 (by decide) (fun c => ?_) (fun c => ?_))
                    · have h := ite_t h c
                      obtain ⟨r224, S224, e224, h⟩ := cal_some h
                      exact x_aload_n C dX10_cutSign_218 rfl 0 rfl (x_bipush C dX10_cutSign_219 kb_33 (x_iload_n C dX10_cutSign_221 rfl 3 rfl (x_iconst C dX10_cutSign_222 kc_1 (x_iadd C dX10_cutSign_223 (x_callVi C (c_x10_keep e224) k_X10_39 (ci := 10) (q0 := 11) rfl rfl (by decide) (Nat.le_of_ble_eq_true rfl) rfl dX10_cutSign_224 (x_iret E h retI dX10_cutSign_227))))))
                    · have h := ite_f h c
                      obtain ⟨r212, S212, e212, h⟩ := cal_some h
                      exact x_aload_n C dX10_cutSign_206 rfl 0 rfl (x_bipush C dX10_cutSign_207 kb_34 (x_iload_n C dX10_cutSign_209 rfl 3 rfl (x_iconst C dX10_cutSign_210 kc_2 (x_iadd C dX10_cutSign_211 (x_callVi C (c_x10_keep e212) k_X10_39 (ci := 10) (q0 := 11) rfl rfl (by decide) (Nat.le_of_ble_eq_true rfl) rfl dX10_cutSign_212 (x_goto C (tgt := 227) dX10_cutSign_215 (by decide) (x_iret E h retI dX10_cutSign_227)))))))
                  · have h := ite_f h c60
                    refine x_case 61 (fun c61 => ?_) (fun c61 => ?_)
                    · have h := ite_t h c61
                      refine x_table C (tgt := 228) dX10_cutSign_1 (by decide) (by rw [c61]; decide) ?_
                      refine x_aload_n C dX10_cutSign_228 rfl 0 rfl (x_iload_n C dX10_cutSign_229 rfl 2 rfl (x_if_eq C (tgt := 238) dX10_cutSign_230 (by decide) (fun c => ?_) (fun c => ?_)))
                      · have h := ite_t h c
                        obtain ⟨r243, S243, e243, h⟩ := cal_some h
                        exact x_bipush C dX10_cutSign_238 kb_38 (x_iload_n C dX10_cutSign_240 rfl 3 rfl (x_iconst C dX10_cutSign_241 kc_2 (x_iadd C dX10_cutSign_242 (x_callVi C (c_x10_keep e243) k_X10_39 (ci := 10) (q0 := 11) rfl rfl (by decide) (Nat.le_of_ble_eq_true rfl) rfl dX10_cutSign_243 (x_iret E h retI dX10_cutSign_246)))))
                      · have h := ite_f h c
                        obtain ⟨r243, S243, e243, h⟩ := cal_some h
                        exact x_bipush C dX10_cutSign_233 kb_31 (x_goto C (tgt := 240) dX10_cutSign_235 (by decide) (x_iload_n C dX10_cutSign_240 rfl 3 rfl (x_iconst C dX10_cutSign_241 kc_2 (x_iadd C dX10_cutSign_242 (x_callVi C (c_x10_keep e243) k_X10_39 (ci := 10) (q0 := 11) rfl rfl (by decide) (Nat.le_of_ble_eq_true rfl) rfl dX10_cutSign_243 (x_iret E h retI dX10_cutSign_246))))))
                    · have h := ite_f h c61
                      refine x_table C (tgt := 266) dX10_cutSign_1 (by decide) (by rw [tsw_d [33, 40, 41, 42, 43, 45, 47, 59, 60, 61] (by intro k hk; simp only [List.mem_cons, List.not_mem_nil, or_false] at hk; rcases hk with rfl | rfl | rfl | rfl | rfl | rfl | rfl | rfl | rfl | rfl <;> assumption) (by decide)]; decide) ?_
                      obtain ⟨r272, S272, e272, h⟩ := cal_some h
                      exact x_aload_n C dX10_cutSign_266 rfl 0 rfl (x_bipush C dX10_cutSign_267 kb_38 (x_iload_n C dX10_cutSign_269 rfl 3 rfl (x_iconst C dX10_cutSign_270 kc_1 (x_iadd C dX10_cutSign_271 (x_callVi C (c_x10_keep e272) k_X10_39 (ci := 10) (q0 := 11) rfl rfl (by decide) (Nat.le_of_ble_eq_true rfl) rfl dX10_cutSign_272 (x_iret E h retI dX10_cutSign_275))))))
set_option maxHeartbeats 4000000 in
theorem c_x11_clear {ad : AD} {ek : EK} {lh : Launch} {Dh : va_G} {S' : ST}  {S : ST} (h : x11_clear S = some S') : MXv lh Dh ad ek (cX ad) yX11_clear cX11_clear 1 none 2 [.ref (ad.1 0)] S S' := by
  refine mxv_of (by decide) (Nat.le_of_ble_eq_true rfl) (fun z C E => ?_)
  unfold x11_clear at h
  obtain ⟨S4, e4, h⟩ := calV_some h
  exact x_aload_n C dX11_clear_0 rfl 0 rfl (gX_X11_7 C u_2_146 dX11_clear_1 (x_callVv C (c_x8_empty e4) k_X11_213 (ci := 8) (q0 := 8) rfl rfl (by decide) (Nat.le_of_ble_eq_true rfl) rfl dX11_clear_4 (x_vret E h dX11_clear_7)))
set_option maxHeartbeats 4000000 in
theorem c_x11_count {ad : AD} {ek : EK} {lh : Launch} {Dh : va_G} {r : Int32} {S' : ST}  {S : ST} {l1 : Int32} (h : x11_count S l1 = some (r, S')) : MXi lh Dh ad ek (cX ad) yX11_count cX11_count 2 (some .int) 2 [.ref (ad.1 0), .int l1] S r S' := by
  refine mxi_of (by decide) (Nat.le_of_ble_eq_true rfl) (fun z C E => ?_)
  unfold x11_count at h
  refine x_iload_n C dX11_count_0 rfl 1 rfl (?_)
  refine x_case 0 (fun c0 => ?_) (fun c0 => ?_)
  · have h := ite_t h c0
    refine x_table C (tgt := 40) dX11_count_1 (by decide) (by rw [c0]; decide) ?_
    exact x_aload_n C dX11_count_40 rfl 0 rfl (gX_X11_3 C u_2_142 dX11_count_41 (gX_X0_10 C u_1_218 dX11_count_44 (x_iret E h retI dX11_count_47)))
  · have h := ite_f h c0
    refine x_case 1 (fun c1 => ?_) (fun c1 => ?_)
    · have h := ite_t h c1
      refine x_table C (tgt := 48) dX11_count_1 (by decide) (by rw [c1]; decide) ?_
      exact x_aload_n C dX11_count_48 rfl 0 rfl (gX_X11_1 C u_2_140 dX11_count_49 (gX_X7_15 C u_1_88 dX11_count_52 (x_iret E h retI dX11_count_55)))
    · have h := ite_f h c1
      refine x_case 2 (fun c2 => ?_) (fun c2 => ?_)
      · have h := ite_t h c2
        refine x_table C (tgt := 56) dX11_count_1 (by decide) (by rw [c2]; decide) ?_
        exact x_aload_n C dX11_count_56 rfl 0 rfl (gX_X11_0 C u_2_139 dX11_count_57 (gX_X9_1 C u_1_37 dX11_count_60 (x_iret E h retI dX11_count_63)))
      · have h := ite_f h c2
        refine x_case 3 (fun c3 => ?_) (fun c3 => ?_)
        · have h := ite_t h c3
          refine x_table C (tgt := 64) dX11_count_1 (by decide) (by rw [c3]; decide) ?_
          obtain ⟨r71, S71, e71, h⟩ := cal_some h
          exact x_aload_n C dX11_count_64 rfl 0 rfl (gX_X11_7 C u_2_146 dX11_count_65 (x_iload_n C dX11_count_68 rfl 1 rfl (x_iconst C dX11_count_69 kc_3 (x_isub C dX11_count_70 (x_callVi C (c_x8_lengthOf e71) k_X11_255 (ci := 8) (q0 := 8) rfl rfl (by decide) (Nat.le_of_ble_eq_true rfl) rfl dX11_count_71 (x_iret E h retI dX11_count_74))))))
        · have h := ite_f h c3
          refine x_case 4 (fun c4 => ?_) (fun c4 => ?_)
          · have h := ite_t h c4
            refine x_table C (tgt := 64) dX11_count_1 (by decide) (by rw [c4]; decide) ?_
            obtain ⟨r71, S71, e71, h⟩ := cal_some h
            exact x_aload_n C dX11_count_64 rfl 0 rfl (gX_X11_7 C u_2_146 dX11_count_65 (x_iload_n C dX11_count_68 rfl 1 rfl (x_iconst C dX11_count_69 kc_3 (x_isub C dX11_count_70 (x_callVi C (c_x8_lengthOf e71) k_X11_255 (ci := 8) (q0 := 8) rfl rfl (by decide) (Nat.le_of_ble_eq_true rfl) rfl dX11_count_71 (x_iret E h retI dX11_count_74))))))
          · have h := ite_f h c4
            refine x_case 5 (fun c5 => ?_) (fun c5 => ?_)
            · have h := ite_t h c5
              refine x_table C (tgt := 64) dX11_count_1 (by decide) (by rw [c5]; decide) ?_
              obtain ⟨r71, S71, e71, h⟩ := cal_some h
              exact x_aload_n C dX11_count_64 rfl 0 rfl (gX_X11_7 C u_2_146 dX11_count_65 (x_iload_n C dX11_count_68 rfl 1 rfl (x_iconst C dX11_count_69 kc_3 (x_isub C dX11_count_70 (x_callVi C (c_x8_lengthOf e71) k_X11_255 (ci := 8) (q0 := 8) rfl rfl (by decide) (Nat.le_of_ble_eq_true rfl) rfl dX11_count_71 (x_iret E h retI dX11_count_74))))))
            · have h := ite_f h c5
              refine x_table C (tgt := 75) dX11_count_1 (by decide) (by rw [tsw_d [0, 1, 2, 3, 4, 5] (by intro k hk; simp only [List.mem_cons, List.not_mem_nil, or_false] at hk; rcases hk with rfl | rfl | rfl | rfl | rfl | rfl <;> assumption) (by decide)]; decide) ?_
              exact x_iconst C dX11_count_75 kc_m1 (x_iret E h retI dX11_count_76)
set_option maxHeartbeats 4000000 in
theorem w_x11_fact_j108 {z : ZT} {ad : AD} {ek : EK} {lh : Launch} {Dh : va_G} {r : Int32} {S' : ST} (C : CX z ad ek cX11_fact RX11 lh Dh 2 8) (E : EI z (cX ad) cX11_fact (some .int) r S') {S : ST} {l1 : Int32} {l2 : Int32} {l3 : Int32} {l4 : Int32} (h : x11_fact_j108 S l1 l2 l3 l4 = some (r, S')) : XW z (cX ad) 108 [(0, .ref (ad.1 0)), (1, .int l1), (2, .int l2), (3, .int l3), (4, .int l4)] [] S := by
  unfold x11_fact_j108 at h
  obtain ⟨r116, S116, e116, h⟩ := cal_some h
  refine x_aload_n C dX11_fact_108 rfl 0 rfl (gX_X11_3 C u_2_142 dX11_fact_109 (x_iload_n C dX11_fact_112 rfl 1 rfl (x_iload C dX11_fact_113 4 rfl (x_iload_n C dX11_fact_115 rfl 3 rfl (x_callVi C (c_x0_tell e116) k_X11_121 (ci := 0) (q0 := 4) rfl rfl (by decide) (Nat.le_of_ble_eq_true rfl) rfl dX11_fact_116 (x_istore C dX11_fact_119 (by decide) rfl (x_iload C dX11_fact_121 0 rfl (x_iconst C dX11_fact_123 kc_m1 (x_icmp_eq C (tgt := 138) dX11_fact_124 (by decide) (fun c => ?_) (fun c => ?_))))))))))
  · have h := ite_t h c
    exact x_iload C dX11_fact_138 0 rfl (x_iret E h retI dX11_fact_140)
  · have h := ite_f h c
    obtain ⟨g137, h⟩ := G_some h
    exact x_aload_n C dX11_fact_127 rfl 1 rfl (gX_X11_3 C u_2_142 dX11_fact_128 (gX_X0_8 C u_1_212 dX11_fact_131 (x_iload C dX11_fact_134 0 rfl (x_iload_n C dX11_fact_136 rfl 3 rfl (sX_34 C g137 dX11_fact_137 (x_iload C dX11_fact_138 0 rfl (x_iret E h retI dX11_fact_140)))))))
set_option maxHeartbeats 4000000 in
theorem w_x11_fact_j87 {z : ZT} {ad : AD} {ek : EK} {lh : Launch} {Dh : va_G} {r : Int32} {S' : ST} (C : CX z ad ek cX11_fact RX11 lh Dh 2 8) (E : EI z (cX ad) cX11_fact (some .int) r S') {S : ST} {l1 : Int32} {l2 : Int32} {l3 : Int32} {l4 : Int32} (h : x11_fact_j87 S l1 l2 l3 l4 = some (r, S')) : XW z (cX ad) 87 [(0, .ref (ad.1 0)), (1, .int l1), (2, .int l2), (3, .int l3), (4, .int l4)] [] S := by
  unfold x11_fact_j87 at h
  refine x_iload_n C dX11_fact_87 rfl 1 rfl (x_iconst C dX11_fact_88 kc_3 (x_icmp_ne C (tgt := 108) dX11_fact_89 (by decide) (fun c => ?_) (fun c => ?_)))
  · have h := ite_f h c
    exact w_x11_fact_j108 C E h
  · have h := ite_t h c
    obtain ⟨g102, h⟩ := G_some h
    refine x_iload C dX11_fact_92 4 rfl (x_aload_n C dX11_fact_94 rfl 0 rfl (gX_X11_3 C u_2_142 dX11_fact_95 (gX_X0_1 C u_1_196 dX11_fact_98 (x_iload_n C dX11_fact_101 rfl 2 rfl (aX_27 C g102 dX11_fact_102 (x_icmp_ge C (tgt := 108) dX11_fact_103 (by decide) (fun c => ?_) (fun c => ?_)))))))
    · have h := ite_t h c
      exact w_x11_fact_j108 C E h
    · have h := ite_f h c
      exact x_iconst C dX11_fact_106 kc_m1 (x_iret E h retI dX11_fact_107)
set_option maxHeartbeats 4000000 in
theorem w_x11_fact_j70 {z : ZT} {ad : AD} {ek : EK} {lh : Launch} {Dh : va_G} {r : Int32} {S' : ST} (C : CX z ad ek cX11_fact RX11 lh Dh 2 8) (E : EI z (cX ad) cX11_fact (some .int) r S') {S : ST} {l1 : Int32} {l2 : Int32} {l3 : Int32} {l4 : Int32} {l6 : Int32} (h : x11_fact_j70 S l1 l2 l3 l4 l6 = some (r, S')) : XW z (cX ad) 70 [(0, .ref (ad.1 0)), (1, .int l1), (2, .int l2), (3, .int l3), (4, .int l4), (6, .int l6)] [] S := by
  unfold x11_fact_j70 at h
  refine x_iload C dX11_fact_70 5 rfl (x_if_eq C (tgt := 87) dX11_fact_72 (by decide) (fun c => ?_) (fun c => ?_))
  · have h := ite_t h c
    exact x_perm [0, 1, 2, 3, 4] rfl (w_x11_fact_j87 C E h)
  · have h := ite_f h c
    obtain ⟨r79, e79, h⟩ := cal0_some h
    refine x_iload C dX11_fact_75 4 rfl (x_bipush C dX11_fact_77 kb_100 (x_callSi C (c_x11_isBelow e79) k_X11_113 (by decide) (Nat.le_of_ble_eq_true rfl) rfl dX11_fact_79 (x_if_ne C (tgt := 87) dX11_fact_82 (by decide) (fun c => ?_) (fun c => ?_))))
    · have h := ite_f h c
      exact x_perm [0, 1, 2, 3, 4] rfl (w_x11_fact_j87 C E h)
    · have h := ite_t h c
      exact x_iconst C dX11_fact_85 kc_m1 (x_iret E h retI dX11_fact_86)
set_option maxHeartbeats 4000000 in
theorem w_x11_fact_j56 {z : ZT} {ad : AD} {ek : EK} {lh : Launch} {Dh : va_G} {r : Int32} {S' : ST} (C : CX z ad ek cX11_fact RX11 lh Dh 2 8) (E : EI z (cX ad) cX11_fact (some .int) r S') {S : ST} {l1 : Int32} {l2 : Int32} {l3 : Int32} {l4 : Int32} {l5 : Int32} {s0 : Int32} (h : x11_fact_j56 S l1 l2 l3 l4 l5 s0 = some (r, S')) : XW z (cX ad) 56 [(0, .ref (ad.1 0)), (1, .int l1), (2, .int l2), (3, .int l3), (4, .int l4), (5, .int l5)] [.int s0] S := by
  unfold x11_fact_j56 at h
  refine x_istore C dX11_fact_56 (by decide) rfl (x_iload C dX11_fact_58 6 rfl (x_if_eq C (tgt := 70) dX11_fact_60 (by decide) (fun c => ?_) (fun c => ?_)))
  · have h := ite_t h c
    exact x_perm [1, 2, 3, 4, 5, 0] rfl (w_x11_fact_j70 C E h)
  · have h := ite_f h c
    obtain ⟨r64, e64, h⟩ := cal0_some h
    refine x_iload_n C dX11_fact_63 rfl 4 rfl (x_callSi C (c_x11_isWord e64) k_X11_105 (by decide) (Nat.le_of_ble_eq_true rfl) rfl dX11_fact_64 (x_if_eq C (tgt := 85) dX11_fact_67 (by decide) (fun c => ?_) (fun c => ?_)))
    · have h := ite_t h c
      exact x_iconst C dX11_fact_85 kc_m1 (x_iret E h retI dX11_fact_86)
    · have h := ite_f h c
      exact x_perm [1, 2, 3, 4, 5, 0] rfl (w_x11_fact_j70 C E h)
set_option maxHeartbeats 4000000 in
theorem w_x11_fact_j44 {z : ZT} {ad : AD} {ek : EK} {lh : Launch} {Dh : va_G} {r : Int32} {S' : ST} (C : CX z ad ek cX11_fact RX11 lh Dh 2 8) (E : EI z (cX ad) cX11_fact (some .int) r S') {S : ST} {l1 : Int32} {l2 : Int32} {l3 : Int32} {l4 : Int32} {s0 : Int32} (h : x11_fact_j44 S l1 l2 l3 l4 s0 = some (r, S')) : XW z (cX ad) 44 [(0, .ref (ad.1 0)), (1, .int l1), (2, .int l2), (3, .int l3), (4, .int l4)] [.int s0] S := by
  unfold x11_fact_j44 at h
  refine x_istore C dX11_fact_44 (by decide) rfl (x_iload_n C dX11_fact_46 rfl 2 rfl (x_iconst C dX11_fact_47 kc_1 (x_icmp_eq C (tgt := 55) dX11_fact_48 (by decide) (fun c => ?_) (fun c => ?_))))
  · have h := ite_t h c
    exact x_iconst C dX11_fact_55 kc_0 (x_perm [1, 2, 3, 4, 5, 0] rfl (w_x11_fact_j56 C E h))
  · have h := ite_f h c
    exact x_iconst C dX11_fact_51 kc_1 (x_goto C (tgt := 56) dX11_fact_52 (by decide) (x_perm [1, 2, 3, 4, 5, 0] rfl (w_x11_fact_j56 C E h)))
set_option maxHeartbeats 4000000 in
theorem w_x11_fact_j39 {z : ZT} {ad : AD} {ek : EK} {lh : Launch} {Dh : va_G} {r : Int32} {S' : ST} (C : CX z ad ek cX11_fact RX11 lh Dh 2 8) (E : EI z (cX ad) cX11_fact (some .int) r S') {S : ST} {l1 : Int32} {l2 : Int32} {l3 : Int32} {l4 : Int32} (h : x11_fact_j39 S l1 l2 l3 l4 = some (r, S')) : XW z (cX ad) 39 [(0, .ref (ad.1 0)), (1, .int l1), (2, .int l2), (3, .int l3), (4, .int l4)] [] S := by
  unfold x11_fact_j39 at h
  exact x_iconst C dX11_fact_39 kc_1 (x_goto C (tgt := 44) dX11_fact_40 (by decide) (w_x11_fact_j44 C E h))
set_option maxHeartbeats 4000000 in
theorem c_x11_fact {ad : AD} {ek : EK} {lh : Launch} {Dh : va_G} {r : Int32} {S' : ST}  {S : ST} {l1 : Int32} {l2 : Int32} {l3 : Int32} {l4 : Int32} (h : x11_fact S l1 l2 l3 l4 = some (r, S')) : MXi lh Dh ad ek (cX ad) yX11_fact cX11_fact 8 (some .int) 2 [.ref (ad.1 0), .int l1, .int l2, .int l3, .int l4] S r S' := by
  refine mxi_of (by decide) (Nat.le_of_ble_eq_true rfl) (fun z C E => ?_)
  unfold x11_fact at h
  refine x_iload_n C dX11_fact_0 rfl 1 rfl (x_if_lt C (tgt := 28) dX11_fact_1 (by decide) (fun c => ?_) (fun c => ?_))
  · have h := ite_t h c
    exact x_iconst C dX11_fact_28 kc_m1 (x_iret E h retI dX11_fact_29)
  · have h := ite_f h c
    refine x_iload_n C dX11_fact_4 rfl 1 rfl (x_iconst C dX11_fact_5 kc_3 (x_icmp_gt C (tgt := 28) dX11_fact_6 (by decide) (fun c => ?_) (fun c => ?_)))
    · have h := ite_t h c
      exact x_iconst C dX11_fact_28 kc_m1 (x_iret E h retI dX11_fact_29)
    · have h := ite_f h c
      obtain ⟨r22, S22, e22, h⟩ := cal_some h
      refine x_aload_n C dX11_fact_9 rfl 0 rfl (gX_X11_3 C u_2_142 dX11_fact_10 (x_iload_n C dX11_fact_13 rfl 2 rfl (x_iconst C dX11_fact_14 kc_4 (x_aload_n C dX11_fact_15 rfl 0 rfl (gX_X11_3 C u_2_142 dX11_fact_16 (gX_X0_10 C u_1_218 dX11_fact_19 (x_callVi C (c_x0_isOfKind e22) k_X11_138 (ci := 0) (q0 := 4) rfl rfl (by decide) (Nat.le_of_ble_eq_true rfl) rfl dX11_fact_22 (x_if_ne C (tgt := 30) dX11_fact_25 (by decide) (fun c => ?_) (fun c => ?_)))))))))
      · have h := ite_f h c
        refine x_iload_n C dX11_fact_30 rfl 1 rfl (x_if_eq C (tgt := 39) dX11_fact_31 (by decide) (fun c => ?_) (fun c => ?_))
        · have h := ite_t h c
          exact w_x11_fact_j39 C E h
        · have h := ite_f h c
          refine x_iload_n C dX11_fact_34 rfl 1 rfl (x_iconst C dX11_fact_35 kc_1 (x_icmp_ne C (tgt := 43) dX11_fact_36 (by decide) (fun c => ?_) (fun c => ?_)))
          · have h := ite_f h c
            exact x_iconst C dX11_fact_43 kc_0 (w_x11_fact_j44 C E h)
          · have h := ite_t h c
            exact w_x11_fact_j39 C E h
      · have h := ite_t h c
        exact x_iconst C dX11_fact_28 kc_m1 (x_iret E h retI dX11_fact_29)
set_option maxHeartbeats 4000000 in
theorem c_x11_feed {ad : AD} {ek : EK} {lh : Launch} {Dh : va_G} {r : Int32} {S' : ST}  {S : ST} {l1 : Int32} {l2 : Int32} {l3 : Int32} {l4 : Int32} {l5 : Int32} (h : x11_feed S l1 l2 l3 l4 l5 = some (r, S')) : MXi lh Dh ad ek (cX ad) yX11_feed cX11_feed 6 (some .int) 2 [.ref (ad.1 0), .int l1, .int l2, .int l3, .int l4, .int l5] S r S' := by
  refine mxi_of (by decide) (Nat.le_of_ble_eq_true rfl) (fun z C E => ?_)
  unfold x11_feed at h
  obtain ⟨r4, S4, e4, h⟩ := cal_some h
  refine x_aload_n C dX11_feed_0 rfl 0 rfl (gX_X11_0 C u_2_139 dX11_feed_1 (x_callVi C (c_x9_hasRoom e4) k_X11_84 (ci := 9) (q0 := 1) rfl rfl (by decide) (Nat.le_of_ble_eq_true rfl) rfl dX11_feed_4 (x_if_ne C (tgt := 12) dX11_feed_7 (by decide) (fun c => ?_) (fun c => ?_))))
  · have h := ite_f h c
    obtain ⟨S17, e17, h⟩ := calV_some h
    obtain ⟨S25, e25, h⟩ := calV_some h
    obtain ⟨S33, e33, h⟩ := calV_some h
    obtain ⟨S42, e42, h⟩ := calV_some h
    obtain ⟨S51, e51, h⟩ := calV_some h
    exact x_aload_n C dX11_feed_12 rfl 0 rfl (gX_X11_0 C u_2_139 dX11_feed_13 (x_iload_n C dX11_feed_16 rfl 1 rfl (x_callVv C (c_x9_append e17) k_X11_88 (ci := 9) (q0 := 1) rfl rfl (by decide) (Nat.le_of_ble_eq_true rfl) rfl dX11_feed_17 (x_aload_n C dX11_feed_20 rfl 0 rfl (gX_X11_0 C u_2_139 dX11_feed_21 (x_iload_n C dX11_feed_24 rfl 2 rfl (x_callVv C (c_x9_append e25) k_X11_88 (ci := 9) (q0 := 1) rfl rfl (by decide) (Nat.le_of_ble_eq_true rfl) rfl dX11_feed_25 (x_aload_n C dX11_feed_28 rfl 0 rfl (gX_X11_0 C u_2_139 dX11_feed_29 (x_iload_n C dX11_feed_32 rfl 3 rfl (x_callVv C (c_x9_append e33) k_X11_88 (ci := 9) (q0 := 1) rfl rfl (by decide) (Nat.le_of_ble_eq_true rfl) rfl dX11_feed_33 (x_aload_n C dX11_feed_36 rfl 0 rfl (gX_X11_0 C u_2_139 dX11_feed_37 (x_iload C dX11_feed_40 4 rfl (x_callVv C (c_x9_append e42) k_X11_88 (ci := 9) (q0 := 1) rfl rfl (by decide) (Nat.le_of_ble_eq_true rfl) rfl dX11_feed_42 (x_aload_n C dX11_feed_45 rfl 0 rfl (gX_X11_0 C u_2_139 dX11_feed_46 (x_iload C dX11_feed_49 5 rfl (x_callVv C (c_x9_append e51) k_X11_88 (ci := 9) (q0 := 1) rfl rfl (by decide) (Nat.le_of_ble_eq_true rfl) rfl dX11_feed_51 (x_aload_n C dX11_feed_54 rfl 0 rfl (gX_X11_0 C u_2_139 dX11_feed_55 (gX_X9_1 C u_1_37 dX11_feed_58 (x_iret E h retI dX11_feed_61)))))))))))))))))))))))
  · have h := ite_t h c
    exact x_iconst C dX11_feed_10 kc_m1 (x_iret E h retI dX11_feed_11)
set_option maxHeartbeats 4000000 in
theorem c_x11_isPrint {ad : AD} {ek : EK} {lh : Launch} {Dh : va_G} {r : Int32} {S' : ST}  {S : ST} {l1 : Int32} {l2 : Int32} {l3 : Int32} (h : x11_isPrint S l1 l2 l3 = some (r, S')) : MXi lh Dh ad ek (cX ad) yX11_isPrint cX11_isPrint 4 (some .boolean) 2 [.ref (ad.1 0), .int l1, .int l2, .int l3] S r S' := by
  refine mxi_of (by decide) (Nat.le_of_ble_eq_true rfl) (fun z C E => ?_)
  unfold x11_isPrint at h
  obtain ⟨r3, e3, h⟩ := cal0_some h
  refine x_iload_n C dX11_isPrint_0 rfl 1 rfl (x_bipush C dX11_isPrint_1 kb_100 (x_callSi C (c_x11_isBelow e3) k_X11_113 (by decide) (Nat.le_of_ble_eq_true rfl) rfl dX11_isPrint_3 (x_if_eq C (tgt := 35) dX11_isPrint_6 (by decide) (fun c => ?_) (fun c => ?_))))
  · have h := ite_t h c
    exact x_iconst C dX11_isPrint_35 kc_0 (x_iret E h (retB rfl) dX11_isPrint_36)
  · have h := ite_f h c
    obtain ⟨r12, e12, h⟩ := cal0_some h
    refine x_iload_n C dX11_isPrint_9 rfl 2 rfl (x_bipush C dX11_isPrint_10 kb_100 (x_callSi C (c_x11_isBelow e12) k_X11_113 (by decide) (Nat.le_of_ble_eq_true rfl) rfl dX11_isPrint_12 (x_if_eq C (tgt := 35) dX11_isPrint_15 (by decide) (fun c => ?_) (fun c => ?_))))
    · have h := ite_t h c
      exact x_iconst C dX11_isPrint_35 kc_0 (x_iret E h (retB rfl) dX11_isPrint_36)
    · have h := ite_f h c
      refine x_iload_n C dX11_isPrint_18 rfl 2 rfl (x_iload_n C dX11_isPrint_19 rfl 1 rfl (x_icmp_lt C (tgt := 35) dX11_isPrint_20 (by decide) (fun c => ?_) (fun c => ?_)))
      · have h := ite_t h c
        exact x_iconst C dX11_isPrint_35 kc_0 (x_iret E h (retB rfl) dX11_isPrint_36)
      · have h := ite_f h c
        obtain ⟨r25, S25, e25, h⟩ := cal_some h
        refine x_aload_n C dX11_isPrint_23 rfl 0 rfl (x_iload_n C dX11_isPrint_24 rfl 3 rfl (x_callVi C (c_x11_isKnown e25) k_X11_165 (ci := 11) (q0 := 0) rfl rfl (by decide) (Nat.le_of_ble_eq_true rfl) rfl dX11_isPrint_25 (x_if_eq C (tgt := 35) dX11_isPrint_28 (by decide) (fun c => ?_) (fun c => ?_))))
        · have h := ite_t h c
          exact x_iconst C dX11_isPrint_35 kc_0 (x_iret E h (retB rfl) dX11_isPrint_36)
        · have h := ite_f h c
          exact x_iconst C dX11_isPrint_31 kc_1 (x_goto C (tgt := 36) dX11_isPrint_32 (by decide) (x_iret E h (retB rfl) dX11_isPrint_36))
set_option maxHeartbeats 4000000 in
theorem c_x11_office {ad : AD} {ek : EK} {lh : Launch} {Dh : va_G} {r : Int32} {S' : ST}  {S : ST} {l1 : Int32} {l2 : Int32} (h : x11_office S l1 l2 = some (r, S')) : MXi lh Dh ad ek (cX ad) yX11_office cX11_office 4 (some .int) 2 [.ref (ad.1 0), .int l1, .int l2] S r S' := by
  refine mxi_of (by decide) (Nat.le_of_ble_eq_true rfl) (fun z C E => ?_)
  unfold x11_office at h
  obtain ⟨r3, e3, h⟩ := cal0_some h
  refine x_iload_n C dX11_office_0 rfl 1 rfl (x_bipush C dX11_office_1 kb_8 (x_callSi C (c_x11_isBelow e3) k_X11_113 (by decide) (Nat.le_of_ble_eq_true rfl) rfl dX11_office_3 (x_if_eq C (tgt := 18) dX11_office_6 (by decide) (fun c => ?_) (fun c => ?_))))
  · have h := ite_t h c
    exact x_iconst C dX11_office_18 kc_m1 (x_iret E h retI dX11_office_19)
  · have h := ite_f h c
    obtain ⟨r12, e12, h⟩ := cal0_some h
    refine x_iload_n C dX11_office_9 rfl 2 rfl (x_bipush C dX11_office_10 kb_10 (x_callSi C (c_x11_isBelow e12) k_X11_113 (by decide) (Nat.le_of_ble_eq_true rfl) rfl dX11_office_12 (x_if_ne C (tgt := 20) dX11_office_15 (by decide) (fun c => ?_) (fun c => ?_))))
    · have h := ite_f h c
      obtain ⟨r28, S28, e28, h⟩ := cal_some h
      refine x_aload_n C dX11_office_20 rfl 0 rfl (gX_X11_3 C u_2_142 dX11_office_21 (x_bipush C dX11_office_24 kb_6 (x_iconst C dX11_office_26 kc_0 (x_iconst C dX11_office_27 kc_0 (x_callVi C (c_x0_tell e28) k_X11_121 (ci := 0) (q0 := 4) rfl rfl (by decide) (Nat.le_of_ble_eq_true rfl) rfl dX11_office_28 (x_istore_n C dX11_office_31 rfl (by decide) rfl (x_iload_n C dX11_office_32 rfl 0 rfl (x_iconst C dX11_office_33 kc_m1 (x_icmp_eq C (tgt := 57) dX11_office_34 (by decide) (fun c => ?_) (fun c => ?_))))))))))
      · have h := ite_t h c
        exact x_iload_n C dX11_office_57 rfl 0 rfl (x_iret E h retI dX11_office_58)
      · have h := ite_f h c
        obtain ⟨g46, h⟩ := G_some h
        obtain ⟨g56, h⟩ := G_some h
        exact x_aload_n C dX11_office_37 rfl 1 rfl (gX_X11_3 C u_2_142 dX11_office_38 (gX_X0_7 C u_1_209 dX11_office_41 (x_iload_n C dX11_office_44 rfl 0 rfl (x_iload_n C dX11_office_45 rfl 2 rfl (sX_33 C g46 dX11_office_46 (x_aload_n C dX11_office_47 rfl 1 rfl (gX_X11_3 C u_2_142 dX11_office_48 (gX_X0_9 C u_1_216 dX11_office_51 (x_iload_n C dX11_office_54 rfl 0 rfl (x_iload_n C dX11_office_55 rfl 3 rfl (sX_35 C g56 dX11_office_56 (x_iload_n C dX11_office_57 rfl 0 rfl (x_iret E h retI dX11_office_58)))))))))))))
    · have h := ite_t h c
      exact x_iconst C dX11_office_18 kc_m1 (x_iret E h retI dX11_office_19)
set_option maxHeartbeats 4000000 in
theorem c_x11_paper {ad : AD} {ek : EK} {lh : Launch} {Dh : va_G} {r : Int32} {S' : ST}  {S : ST} {l1 : Int32} {l2 : Int32} {l3 : Int32} (h : x11_paper S l1 l2 l3 = some (r, S')) : MXi lh Dh ad ek (cX ad) yX11_paper cX11_paper 5 (some .int) 2 [.ref (ad.1 0), .int l1, .int l2, .int l3] S r S' := by
  refine mxi_of (by decide) (Nat.le_of_ble_eq_true rfl) (fun z C E => ?_)
  unfold x11_paper at h
  obtain ⟨r2, e2, h⟩ := cal0_some h
  refine x_iload_n C dX11_paper_0 rfl 1 rfl (x_iconst C dX11_paper_1 kc_4 (x_callSi C (c_x11_isBelow e2) k_X11_113 (by decide) (Nat.le_of_ble_eq_true rfl) rfl dX11_paper_2 (x_if_eq C (tgt := 27) dX11_paper_5 (by decide) (fun c => ?_) (fun c => ?_))))
  · have h := ite_t h c
    exact x_iconst C dX11_paper_27 kc_m1 (x_iret E h retI dX11_paper_28)
  · have h := ite_f h c
    obtain ⟨r11, e11, h⟩ := cal0_some h
    refine x_iload_n C dX11_paper_8 rfl 2 rfl (x_bipush C dX11_paper_9 kb_10 (x_callSi C (c_x11_isBelow e11) k_X11_113 (by decide) (Nat.le_of_ble_eq_true rfl) rfl dX11_paper_11 (x_if_eq C (tgt := 27) dX11_paper_14 (by decide) (fun c => ?_) (fun c => ?_))))
    · have h := ite_t h c
      exact x_iconst C dX11_paper_27 kc_m1 (x_iret E h retI dX11_paper_28)
    · have h := ite_f h c
      obtain ⟨r21, e21, h⟩ := cal0_some h
      refine x_iload_n C dX11_paper_17 rfl 3 rfl (x_sipush C dX11_paper_18 ks_1000 (x_callSi C (c_x11_isBelow e21) k_X11_113 (by decide) (Nat.le_of_ble_eq_true rfl) rfl dX11_paper_21 (x_if_ne C (tgt := 29) dX11_paper_24 (by decide) (fun c => ?_) (fun c => ?_))))
      · have h := ite_f h c
        obtain ⟨r37, S37, e37, h⟩ := cal_some h
        refine x_aload_n C dX11_paper_29 rfl 0 rfl (gX_X11_3 C u_2_142 dX11_paper_30 (x_bipush C dX11_paper_33 kb_7 (x_iconst C dX11_paper_35 kc_0 (x_iload_n C dX11_paper_36 rfl 3 rfl (x_callVi C (c_x0_tell e37) k_X11_121 (ci := 0) (q0 := 4) rfl rfl (by decide) (Nat.le_of_ble_eq_true rfl) rfl dX11_paper_37 (x_istore C dX11_paper_40 (by decide) rfl (x_iload C dX11_paper_42 0 rfl (x_iconst C dX11_paper_44 kc_m1 (x_icmp_eq C (tgt := 59) dX11_paper_45 (by decide) (fun c => ?_) (fun c => ?_))))))))))
        · have h := ite_t h c
          exact x_iload C dX11_paper_59 0 rfl (x_iret E h retI dX11_paper_61)
        · have h := ite_f h c
          obtain ⟨S56, e56, h⟩ := calV_some h
          exact x_aload_n C dX11_paper_48 rfl 1 rfl (gX_X11_3 C u_2_142 dX11_paper_49 (x_iload C dX11_paper_52 0 rfl (x_iload_n C dX11_paper_54 rfl 2 rfl (x_iload_n C dX11_paper_55 rfl 3 rfl (x_callVv C (c_x0_setPaper e56) k_X11_117 (ci := 0) (q0 := 4) rfl rfl (by decide) (Nat.le_of_ble_eq_true rfl) rfl dX11_paper_56 (x_iload C dX11_paper_59 0 rfl (x_iret E h retI dX11_paper_61)))))))
      · have h := ite_t h c
        exact x_iconst C dX11_paper_27 kc_m1 (x_iret E h retI dX11_paper_28)
set_option maxHeartbeats 4000000 in
theorem c_x11_rename {ad : AD} {ek : EK} {lh : Launch} {Dh : va_G} {r : Int32} {S' : ST}  {S : ST} {l1 : Int32} {l2 : Int32} {l3 : Int32} (h : x11_rename S l1 l2 l3 = some (r, S')) : MXi lh Dh ad ek (cX ad) yX11_rename cX11_rename 5 (some .int) 2 [.ref (ad.1 0), .int l1, .int l2, .int l3] S r S' := by
  refine mxi_of (by decide) (Nat.le_of_ble_eq_true rfl) (fun z C E => ?_)
  unfold x11_rename at h
  obtain ⟨r1, e1, h⟩ := cal0_some h
  refine x_iload_n C dX11_rename_0 rfl 1 rfl (x_callSi C (c_x11_isWord e1) k_X11_105 (by decide) (Nat.le_of_ble_eq_true rfl) rfl dX11_rename_1 (x_if_eq C (tgt := 28) dX11_rename_4 (by decide) (fun c => ?_) (fun c => ?_)))
  · have h := ite_t h c
    exact x_iconst C dX11_rename_28 kc_m1 (x_iret E h retI dX11_rename_29)
  · have h := ite_f h c
    obtain ⟨r8, e8, h⟩ := cal0_some h
    refine x_iload_n C dX11_rename_7 rfl 2 rfl (x_callSi C (c_x11_isWord e8) k_X11_105 (by decide) (Nat.le_of_ble_eq_true rfl) rfl dX11_rename_8 (x_if_eq C (tgt := 28) dX11_rename_11 (by decide) (fun c => ?_) (fun c => ?_)))
    · have h := ite_t h c
      exact x_iconst C dX11_rename_28 kc_m1 (x_iret E h retI dX11_rename_29)
    · have h := ite_f h c
      refine x_iload_n C dX11_rename_14 rfl 1 rfl (x_iload_n C dX11_rename_15 rfl 2 rfl (x_icmp_eq C (tgt := 28) dX11_rename_16 (by decide) (fun c => ?_) (fun c => ?_)))
      · have h := ite_t h c
        exact x_iconst C dX11_rename_28 kc_m1 (x_iret E h retI dX11_rename_29)
      · have h := ite_f h c
        obtain ⟨r22, e22, h⟩ := cal0_some h
        refine x_iload_n C dX11_rename_19 rfl 3 rfl (x_bipush C dX11_rename_20 kb_100 (x_callSi C (c_x11_isBelow e22) k_X11_113 (by decide) (Nat.le_of_ble_eq_true rfl) rfl dX11_rename_22 (x_if_ne C (tgt := 30) dX11_rename_25 (by decide) (fun c => ?_) (fun c => ?_))))
        · have h := ite_f h c
          obtain ⟨r38, S38, e38, h⟩ := cal_some h
          refine x_aload_n C dX11_rename_30 rfl 0 rfl (gX_X11_3 C u_2_142 dX11_rename_31 (x_bipush C dX11_rename_34 kb_8 (x_iload_n C dX11_rename_36 rfl 3 rfl (x_iload_n C dX11_rename_37 rfl 1 rfl (x_callVi C (c_x0_tell e38) k_X11_121 (ci := 0) (q0 := 4) rfl rfl (by decide) (Nat.le_of_ble_eq_true rfl) rfl dX11_rename_38 (x_istore C dX11_rename_41 (by decide) rfl (x_iload C dX11_rename_43 0 rfl (x_iconst C dX11_rename_45 kc_m1 (x_icmp_eq C (tgt := 60) dX11_rename_46 (by decide) (fun c => ?_) (fun c => ?_))))))))))
          · have h := ite_t h c
            exact x_iload C dX11_rename_60 0 rfl (x_iret E h retI dX11_rename_62)
          · have h := ite_f h c
            obtain ⟨g59, h⟩ := G_some h
            exact x_aload_n C dX11_rename_49 rfl 1 rfl (gX_X11_3 C u_2_142 dX11_rename_50 (gX_X0_9 C u_1_216 dX11_rename_53 (x_iload C dX11_rename_56 0 rfl (x_iload_n C dX11_rename_58 rfl 3 rfl (sX_35 C g59 dX11_rename_59 (x_iload C dX11_rename_60 0 rfl (x_iret E h retI dX11_rename_62)))))))
        · have h := ite_t h c
          exact x_iconst C dX11_rename_28 kc_m1 (x_iret E h retI dX11_rename_29)
set_option maxHeartbeats 4000000 in
theorem c_x11_reporter {ad : AD} {ek : EK} {lh : Launch} {Dh : va_G} {r : Int32} {S' : ST}  {S : ST} {l1 : Int32} {l2 : Int32} {l3 : Int32} (h : x11_reporter S l1 l2 l3 = some (r, S')) : MXi lh Dh ad ek (cX ad) yX11_reporter cX11_reporter 4 (some .boolean) 2 [.ref (ad.1 0), .int l1, .int l2, .int l3] S r S' := by
  refine mxi_of (by decide) (Nat.le_of_ble_eq_true rfl) (fun z C E => ?_)
  unfold x11_reporter at h
  obtain ⟨r2, e2, h⟩ := cal0_some h
  refine x_iload_n C dX11_reporter_0 rfl 1 rfl (x_iconst C dX11_reporter_1 kc_4 (x_callSi C (c_x11_isBelow e2) k_X11_113 (by decide) (Nat.le_of_ble_eq_true rfl) rfl dX11_reporter_2 (x_if_eq C (tgt := 29) dX11_reporter_5 (by decide) (fun c => ?_) (fun c => ?_))))
  · have h := ite_t h c
    exact x_iconst C dX11_reporter_29 kc_0 (x_iret E h (retB rfl) dX11_reporter_30)
  · have h := ite_f h c
    refine x_iload_n C dX11_reporter_8 rfl 2 rfl (x_iconst C dX11_reporter_9 kc_1 (x_icmp_lt C (tgt := 29) dX11_reporter_10 (by decide) (fun c => ?_) (fun c => ?_)))
    · have h := ite_t h c
      exact x_iconst C dX11_reporter_29 kc_0 (x_iret E h (retB rfl) dX11_reporter_30)
    · have h := ite_f h c
      refine x_iload_n C dX11_reporter_13 rfl 2 rfl (x_bipush C dX11_reporter_14 kb_6 (x_icmp_gt C (tgt := 29) dX11_reporter_16 (by decide) (fun c => ?_) (fun c => ?_)))
      · have h := ite_t h c
        exact x_iconst C dX11_reporter_29 kc_0 (x_iret E h (retB rfl) dX11_reporter_30)
      · have h := ite_f h c
        obtain ⟨r23, e23, h⟩ := cal0_some h
        refine x_iload_n C dX11_reporter_19 rfl 3 rfl (x_sipush C dX11_reporter_20 ks_256 (x_callSi C (c_x11_isBelow e23) k_X11_113 (by decide) (Nat.le_of_ble_eq_true rfl) rfl dX11_reporter_23 (x_if_ne C (tgt := 31) dX11_reporter_26 (by decide) (fun c => ?_) (fun c => ?_))))
        · have h := ite_f h c
          obtain ⟨S38, e38, h⟩ := calV_some h
          exact x_aload_n C dX11_reporter_31 rfl 0 rfl (gX_X11_8 C u_2_147 dX11_reporter_32 (x_iload_n C dX11_reporter_35 rfl 1 rfl (x_iload_n C dX11_reporter_36 rfl 2 rfl (x_iload_n C dX11_reporter_37 rfl 3 rfl (x_callVv C (c_x6_setReporter e38) k_X11_237 (ci := 6) (q0 := 9) rfl rfl (by decide) (Nat.le_of_ble_eq_true rfl) rfl dX11_reporter_38 (x_iconst C dX11_reporter_41 kc_1 (x_iret E h (retB rfl) dX11_reporter_42)))))))
        · have h := ite_t h c
          exact x_iconst C dX11_reporter_29 kc_0 (x_iret E h (retB rfl) dX11_reporter_30)
set_option maxHeartbeats 4000000 in
theorem c_x11_sits {ad : AD} {ek : EK} {lh : Launch} {Dh : va_G} {r : Int32} {S' : ST}  {S : ST} {l1 : Int32} {l2 : Int32} {l3 : Int32} (h : x11_sits S l1 l2 l3 = some (r, S')) : MXi lh Dh ad ek (cX ad) yX11_sits cX11_sits 5 (some .int) 2 [.ref (ad.1 0), .int l1, .int l2, .int l3] S r S' := by
  refine mxi_of (by decide) (Nat.le_of_ble_eq_true rfl) (fun z C E => ?_)
  unfold x11_sits at h
  obtain ⟨r3, e3, h⟩ := cal0_some h
  refine x_iload_n C dX11_sits_0 rfl 1 rfl (x_bipush C dX11_sits_1 kb_8 (x_callSi C (c_x11_isBelow e3) k_X11_113 (by decide) (Nat.le_of_ble_eq_true rfl) rfl dX11_sits_3 (x_if_eq C (tgt := 27) dX11_sits_6 (by decide) (fun c => ?_) (fun c => ?_))))
  · have h := ite_t h c
    exact x_iconst C dX11_sits_27 kc_m1 (x_iret E h retI dX11_sits_28)
  · have h := ite_f h c
    obtain ⟨r12, e12, h⟩ := cal0_some h
    refine x_iload_n C dX11_sits_9 rfl 2 rfl (x_bipush C dX11_sits_10 kb_10 (x_callSi C (c_x11_isBelow e12) k_X11_113 (by decide) (Nat.le_of_ble_eq_true rfl) rfl dX11_sits_12 (x_if_eq C (tgt := 27) dX11_sits_15 (by decide) (fun c => ?_) (fun c => ?_))))
    · have h := ite_t h c
      exact x_iconst C dX11_sits_27 kc_m1 (x_iret E h retI dX11_sits_28)
    · have h := ite_f h c
      obtain ⟨r21, e21, h⟩ := cal0_some h
      refine x_iload_n C dX11_sits_18 rfl 3 rfl (x_bipush C dX11_sits_19 kb_100 (x_callSi C (c_x11_isBelow e21) k_X11_113 (by decide) (Nat.le_of_ble_eq_true rfl) rfl dX11_sits_21 (x_if_ne C (tgt := 29) dX11_sits_24 (by decide) (fun c => ?_) (fun c => ?_))))
      · have h := ite_f h c
        obtain ⟨r36, S36, e36, h⟩ := cal_some h
        refine x_aload_n C dX11_sits_29 rfl 0 rfl (gX_X11_3 C u_2_142 dX11_sits_30 (x_iconst C dX11_sits_33 kc_5 (x_iload_n C dX11_sits_34 rfl 3 rfl (x_iconst C dX11_sits_35 kc_0 (x_callVi C (c_x0_tell e36) k_X11_121 (ci := 0) (q0 := 4) rfl rfl (by decide) (Nat.le_of_ble_eq_true rfl) rfl dX11_sits_36 (x_istore C dX11_sits_39 (by decide) rfl (x_iload C dX11_sits_41 0 rfl (x_iconst C dX11_sits_43 kc_m1 (x_icmp_eq C (tgt := 69) dX11_sits_44 (by decide) (fun c => ?_) (fun c => ?_))))))))))
        · have h := ite_t h c
          exact x_iload C dX11_sits_69 0 rfl (x_iret E h retI dX11_sits_71)
        · have h := ite_f h c
          obtain ⟨g57, h⟩ := G_some h
          obtain ⟨g68, h⟩ := G_some h
          exact x_aload_n C dX11_sits_47 rfl 1 rfl (gX_X11_3 C u_2_142 dX11_sits_48 (gX_X0_7 C u_1_209 dX11_sits_51 (x_iload C dX11_sits_54 0 rfl (x_iload_n C dX11_sits_56 rfl 2 rfl (sX_33 C g57 dX11_sits_57 (x_aload_n C dX11_sits_58 rfl 1 rfl (gX_X11_3 C u_2_142 dX11_sits_59 (gX_X0_3 C u_1_202 dX11_sits_62 (x_iload C dX11_sits_65 0 rfl (x_iload_n C dX11_sits_67 rfl 3 rfl (sX_29 C g68 dX11_sits_68 (x_iload C dX11_sits_69 0 rfl (x_iret E h retI dX11_sits_71)))))))))))))
      · have h := ite_t h c
        exact x_iconst C dX11_sits_27 kc_m1 (x_iret E h retI dX11_sits_28)
set_option maxHeartbeats 4000000 in
theorem c_x11_tellLine {ad : AD} {ek : EK} {lh : Launch} {Dh : va_G} {r : Int32} {S' : ST}  {S : ST} {l1 : Int32} {l2 : Int32} {l3 : Int32} {l4 : Int32} {l5 : Int32} (h : x11_tellLine S l1 l2 l3 l4 l5 = some (r, S')) : MXi lh Dh ad ek (cX ad) yX11_tellLine cX11_tellLine 7 (some .int) 2 [.ref (ad.1 0), .int l1, .int l2, .int l3, .int l4, .int l5] S r S' := by
  refine mxi_of (by decide) (Nat.le_of_ble_eq_true rfl) (fun z C E => ?_)
  unfold x11_tellLine at h
  obtain ⟨r3, e3, h⟩ := cal0_some h
  refine x_iload_n C dX11_tellLine_0 rfl 1 rfl (x_bipush C dX11_tellLine_1 kb_100 (x_callSi C (c_x11_isBelow e3) k_X11_113 (by decide) (Nat.le_of_ble_eq_true rfl) rfl dX11_tellLine_3 (x_if_eq C (tgt := 29) dX11_tellLine_6 (by decide) (fun c => ?_) (fun c => ?_))))
  · have h := ite_t h c
    exact x_iconst C dX11_tellLine_29 kc_m1 (x_iret E h retI dX11_tellLine_30)
  · have h := ite_f h c
    obtain ⟨r13, e13, h⟩ := cal0_some h
    refine x_iload_n C dX11_tellLine_9 rfl 2 rfl (x_sipush C dX11_tellLine_10 ks_240 (x_callSi C (c_x11_isBelow e13) k_X11_113 (by decide) (Nat.le_of_ble_eq_true rfl) rfl dX11_tellLine_13 (x_if_eq C (tgt := 29) dX11_tellLine_16 (by decide) (fun c => ?_) (fun c => ?_))))
    · have h := ite_t h c
      exact x_iconst C dX11_tellLine_29 kc_m1 (x_iret E h retI dX11_tellLine_30)
    · have h := ite_f h c
      obtain ⟨r23, e23, h⟩ := cal0_some h
      refine x_iload C dX11_tellLine_19 4 rfl (x_bipush C dX11_tellLine_21 kb_10 (x_callSi C (c_x11_isBelow e23) k_X11_113 (by decide) (Nat.le_of_ble_eq_true rfl) rfl dX11_tellLine_23 (x_if_ne C (tgt := 31) dX11_tellLine_26 (by decide) (fun c => ?_) (fun c => ?_))))
      · have h := ite_f h c
        obtain ⟨r39, S39, e39, h⟩ := cal_some h
        refine x_aload_n C dX11_tellLine_31 rfl 0 rfl (gX_X11_3 C u_2_142 dX11_tellLine_32 (x_iconst C dX11_tellLine_35 kc_4 (x_iload_n C dX11_tellLine_36 rfl 1 rfl (x_iload C dX11_tellLine_37 5 rfl (x_callVi C (c_x0_tell e39) k_X11_121 (ci := 0) (q0 := 4) rfl rfl (by decide) (Nat.le_of_ble_eq_true rfl) rfl dX11_tellLine_39 (x_istore C dX11_tellLine_42 (by decide) rfl (x_iload C dX11_tellLine_44 0 rfl (x_iconst C dX11_tellLine_46 kc_m1 (x_icmp_eq C (tgt := 84) dX11_tellLine_47 (by decide) (fun c => ?_) (fun c => ?_))))))))))
        · have h := ite_t h c
          exact x_iload C dX11_tellLine_84 0 rfl (x_iret E h retI dX11_tellLine_86)
        · have h := ite_f h c
          obtain ⟨g60, h⟩ := G_some h
          obtain ⟨g71, h⟩ := G_some h
          obtain ⟨g83, h⟩ := G_some h
          exact x_aload_n C dX11_tellLine_50 rfl 1 rfl (gX_X11_3 C u_2_142 dX11_tellLine_51 (gX_X0_2 C u_1_199 dX11_tellLine_54 (x_iload C dX11_tellLine_57 0 rfl (x_iload_n C dX11_tellLine_59 rfl 3 rfl (sX_28 C g60 dX11_tellLine_60 (x_aload_n C dX11_tellLine_61 rfl 1 rfl (gX_X11_3 C u_2_142 dX11_tellLine_62 (gX_X0_9 C u_1_216 dX11_tellLine_65 (x_iload C dX11_tellLine_68 0 rfl (x_iload_n C dX11_tellLine_70 rfl 4 rfl (sX_35 C g71 dX11_tellLine_71 (x_aload_n C dX11_tellLine_72 rfl 1 rfl (gX_X11_3 C u_2_142 dX11_tellLine_73 (gX_X0_3 C u_1_202 dX11_tellLine_76 (x_iload C dX11_tellLine_79 0 rfl (x_iload C dX11_tellLine_81 5 rfl (sX_29 C g83 dX11_tellLine_83 (x_iload C dX11_tellLine_84 0 rfl (x_iret E h retI dX11_tellLine_86)))))))))))))))))))
      · have h := ite_t h c
        exact x_iconst C dX11_tellLine_29 kc_m1 (x_iret E h retI dX11_tellLine_30)
set_option maxHeartbeats 4000000 in
theorem c_x11_turn {ad : AD} {ek : EK} {lh : Launch} {Dh : va_G} {r : Int32} {S' : ST}  {S : ST} {l1 : Int32} (h : x11_turn S l1 = some (r, S')) : MXi lh Dh ad ek (cX ad) yX11_turn cX11_turn 2 (some .int) 2 [.ref (ad.1 0), .int l1] S r S' := by
  refine mxi_of (by decide) (Nat.le_of_ble_eq_true rfl) (fun z C E => ?_)
  unfold x11_turn at h
  obtain ⟨r5, S5, e5, h⟩ := cal_some h
  exact x_aload_n C dX11_turn_0 rfl 0 rfl (gX_X11_8 C u_2_147 dX11_turn_1 (x_iload_n C dX11_turn_4 rfl 1 rfl (x_callVi C (c_x6_taker e5) k_X11_243 (ci := 6) (q0 := 9) rfl rfl (by decide) (Nat.le_of_ble_eq_true rfl) rfl dX11_turn_5 (x_iret E h retI dX11_turn_8))))
set_option maxHeartbeats 4000000 in
theorem c_x11_vote {ad : AD} {ek : EK} {lh : Launch} {Dh : va_G} {r : Int32} {S' : ST}  {S : ST} {l1 : Int32} {l2 : Int32} {l3 : Int32} {l4 : Int32} (h : x11_vote S l1 l2 l3 l4 = some (r, S')) : MXi lh Dh ad ek (cX ad) yX11_vote cX11_vote 6 (some .int) 2 [.ref (ad.1 0), .int l1, .int l2, .int l3, .int l4] S r S' := by
  refine mxi_of (by decide) (Nat.le_of_ble_eq_true rfl) (fun z C E => ?_)
  unfold x11_vote at h
  obtain ⟨r2, e2, h⟩ := cal0_some h
  refine x_iload_n C dX11_vote_0 rfl 1 rfl (x_iconst C dX11_vote_1 kc_4 (x_callSi C (c_x11_isBelow e2) k_X11_113 (by decide) (Nat.le_of_ble_eq_true rfl) rfl dX11_vote_2 (x_if_eq C (tgt := 34) dX11_vote_5 (by decide) (fun c => ?_) (fun c => ?_))))
  · have h := ite_t h c
    exact x_iconst C dX11_vote_34 kc_m1 (x_iret E h retI dX11_vote_35)
  · have h := ite_f h c
    obtain ⟨r11, e11, h⟩ := cal0_some h
    refine x_iload_n C dX11_vote_8 rfl 2 rfl (x_bipush C dX11_vote_9 kb_8 (x_callSi C (c_x11_isBelow e11) k_X11_113 (by decide) (Nat.le_of_ble_eq_true rfl) rfl dX11_vote_11 (x_if_eq C (tgt := 34) dX11_vote_14 (by decide) (fun c => ?_) (fun c => ?_))))
    · have h := ite_t h c
      exact x_iconst C dX11_vote_34 kc_m1 (x_iret E h retI dX11_vote_35)
    · have h := ite_f h c
      obtain ⟨r19, e19, h⟩ := cal0_some h
      refine x_iload_n C dX11_vote_17 rfl 3 rfl (x_iconst C dX11_vote_18 kc_2 (x_callSi C (c_x11_isBelow e19) k_X11_113 (by decide) (Nat.le_of_ble_eq_true rfl) rfl dX11_vote_19 (x_if_eq C (tgt := 34) dX11_vote_22 (by decide) (fun c => ?_) (fun c => ?_))))
      · have h := ite_t h c
        exact x_iconst C dX11_vote_34 kc_m1 (x_iret E h retI dX11_vote_35)
      · have h := ite_f h c
        obtain ⟨r28, e28, h⟩ := cal0_some h
        refine x_iload C dX11_vote_25 4 rfl (x_iconst C dX11_vote_27 kc_2 (x_callSi C (c_x11_isBelow e28) k_X11_113 (by decide) (Nat.le_of_ble_eq_true rfl) rfl dX11_vote_28 (x_if_ne C (tgt := 36) dX11_vote_31 (by decide) (fun c => ?_) (fun c => ?_))))
        · have h := ite_f h c
          obtain ⟨r44, S44, e44, h⟩ := cal_some h
          refine x_aload_n C dX11_vote_36 rfl 0 rfl (gX_X11_3 C u_2_142 dX11_vote_37 (x_bipush C dX11_vote_40 kb_9 (x_iconst C dX11_vote_42 kc_0 (x_iconst C dX11_vote_43 kc_0 (x_callVi C (c_x0_tell e44) k_X11_121 (ci := 0) (q0 := 4) rfl rfl (by decide) (Nat.le_of_ble_eq_true rfl) rfl dX11_vote_44 (x_istore C dX11_vote_47 (by decide) rfl (x_iload C dX11_vote_49 0 rfl (x_iconst C dX11_vote_51 kc_m1 (x_icmp_eq C (tgt := 88) dX11_vote_52 (by decide) (fun c => ?_) (fun c => ?_))))))))))
          · have h := ite_t h c
            exact x_iload C dX11_vote_88 0 rfl (x_iret E h retI dX11_vote_90)
          · have h := ite_f h c
            obtain ⟨g65, h⟩ := G_some h
            obtain ⟨g76, h⟩ := G_some h
            obtain ⟨g87, h⟩ := G_some h
            exact x_aload_n C dX11_vote_55 rfl 1 rfl (gX_X11_3 C u_2_142 dX11_vote_56 (gX_X0_8 C u_1_212 dX11_vote_59 (x_iload C dX11_vote_62 0 rfl (x_iload_n C dX11_vote_64 rfl 2 rfl (sX_34 C g65 dX11_vote_65 (x_aload_n C dX11_vote_66 rfl 1 rfl (gX_X11_3 C u_2_142 dX11_vote_67 (gX_X0_7 C u_1_209 dX11_vote_70 (x_iload C dX11_vote_73 0 rfl (x_iload_n C dX11_vote_75 rfl 3 rfl (sX_33 C g76 dX11_vote_76 (x_aload_n C dX11_vote_77 rfl 1 rfl (gX_X11_3 C u_2_142 dX11_vote_78 (gX_X0_9 C u_1_216 dX11_vote_81 (x_iload C dX11_vote_84 0 rfl (x_iload_n C dX11_vote_86 rfl 4 rfl (sX_35 C g87 dX11_vote_87 (x_iload C dX11_vote_88 0 rfl (x_iret E h retI dX11_vote_90)))))))))))))))))))
        · have h := ite_t h c
          exact x_iconst C dX11_vote_34 kc_m1 (x_iret E h retI dX11_vote_35)
