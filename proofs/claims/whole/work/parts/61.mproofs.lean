set_option maxHeartbeats 4000000 in
theorem w_m_comesOut_j84 {z : ZT} {ad : AD} {ek : EK} {lh : Launch} {Dh : va_G} {S' : ST} (C : CX z ad ek cX12_comesOut RX12 lh Dh 2 3) (E : EV z (cM ad) cX12_comesOut S') {Kb : ST → Int32 → Option ST} (hKb : ∀ (S : ST) (l1 : Int32) , Kb S l1 = some S' → XW z (cM ad) 0 [(0, .ref (ad.1 0)), (1, .int l1)] [] S) {S : ST} {l1 : Int32} {s0 : Int32} (h : m_comesOut_j84 Kb S l1 s0 = some S') : XW z (cM ad) 84 [(0, .ref (ad.1 0)), (1, .int l1)] [.int s0, .ref (ad.1 0)] S := by
  unfold m_comesOut_j84 at h
  obtain ⟨S85, e85, h⟩ := calV_some h
  exact x_iconst C dX12_comesOut_84 kc_0 (x_callVv C (c_m_emit e85) k_X12_259 (ci := 12) (q0 := 0) rfl rfl (by decide) (Nat.le_of_ble_eq_true rfl) rfl dX12_comesOut_85 (x_goto C (tgt := 0) dX12_comesOut_88 (by decide) (hKb _ _ h)))
set_option maxHeartbeats 4000000 in
theorem w_m_comesOut_j42 {z : ZT} {ad : AD} {ek : EK} {lh : Launch} {Dh : va_G} {S' : ST} (C : CX z ad ek cX12_comesOut RX12 lh Dh 2 3) (E : EV z (cM ad) cX12_comesOut S') {Kb : ST → Int32 → Option ST} (hKb : ∀ (S : ST) (l1 : Int32) , Kb S l1 = some S' → XW z (cM ad) 0 [(0, .ref (ad.1 0)), (1, .int l1)] [] S) {S : ST} {l1 : Int32} {l2 : Int32} (h : m_comesOut_j42 Kb S l1 l2 = some S') : XW z (cM ad) 42 [(0, .ref (ad.1 0)), (1, .int l1), (2, .int l2)] [] S := by
  unfold m_comesOut_j42 at h
  refine x_aload_n C dX12_comesOut_42 rfl 0 rfl (x_dup C dX12_comesOut_43 rfl (gM_X12_38 C u_5_118 dX12_comesOut_44 (x_iconst C dX12_comesOut_47 kc_1 (x_isub C dX12_comesOut_48 (pM_X12_38 C u_5_118 dX12_comesOut_49 (x_aload_n C dX12_comesOut_52 rfl 0 rfl (x_iload_n C dX12_comesOut_53 rfl 2 rfl (x_bipush C dX12_comesOut_54 kb_8 (x_icmp_ne C (tgt := 63) dX12_comesOut_56 (by decide) (fun c => ?_) (fun c => ?_))))))))))
  · have h := ite_f h c
    refine x_iload_n C dX12_comesOut_63 rfl 2 rfl (x_bipush C dX12_comesOut_64 kb_9 (x_icmp_ne C (tgt := 73) dX12_comesOut_66 (by decide) (fun c => ?_) (fun c => ?_)))
    · have h := ite_f h c
      refine x_iload_n C dX12_comesOut_73 rfl 2 rfl (x_bipush C dX12_comesOut_74 kb_10 (x_icmp_ne C (tgt := 83) dX12_comesOut_76 (by decide) (fun c => ?_) (fun c => ?_)))
      · have h := ite_f h c
        exact x_iconst C dX12_comesOut_83 kc_5 (x_perm [0, 1] rfl (w_m_comesOut_j84 C E hKb h))
      · have h := ite_t h c
        exact x_iconst C dX12_comesOut_79 kc_4 (x_goto C (tgt := 84) dX12_comesOut_80 (by decide) (x_perm [0, 1] rfl (w_m_comesOut_j84 C E hKb h)))
    · have h := ite_t h c
      exact x_iconst C dX12_comesOut_69 kc_3 (x_goto C (tgt := 84) dX12_comesOut_70 (by decide) (x_perm [0, 1] rfl (w_m_comesOut_j84 C E hKb h)))
  · have h := ite_t h c
    exact x_iconst C dX12_comesOut_59 kc_2 (x_goto C (tgt := 84) dX12_comesOut_60 (by decide) (x_perm [0, 1] rfl (w_m_comesOut_j84 C E hKb h)))
set_option maxHeartbeats 4000000 in
theorem w_m_comesOut_h0 {z : ZT} {ad : AD} {ek : EK} {lh : Launch} {Dh : va_G} {S' : ST} (C : CX z ad ek cX12_comesOut RX12 lh Dh 2 3) (E : EV z (cM ad) cX12_comesOut S') : ∀ (n : Nat) (S : ST) (l1 : Int32), m_comesOut_h0 n S l1 = some S' → XW z (cM ad) 0 [(0, .ref (ad.1 0)), (1, .int l1)] [] S := by
  intro n
  induction n with
  | zero => intro S l1 h; cases h
  | succ n ih =>
    intro S l1 h
    have hKb := ih
    refine x_aload_n C dX12_comesOut_0 rfl 0 rfl (gM_X12_38 C u_5_118 dX12_comesOut_1 (x_if_le C (tgt := 91) dX12_comesOut_4 (by decide) (fun c => ?_) (fun c => ?_)))
    · have h := ite_t h c
      exact (by
        exact x_vret E h dX12_comesOut_91)
    · have h := ite_f h c
      obtain ⟨g17, h⟩ := G_some h
      refine x_aload_n C dX12_comesOut_7 rfl 0 rfl (gM_X12_37 C u_5_117 dX12_comesOut_8 (x_aload_n C dX12_comesOut_11 rfl 0 rfl (gM_X12_38 C u_5_118 dX12_comesOut_12 (x_iconst C dX12_comesOut_15 kc_1 (x_isub C dX12_comesOut_16 (aM_24 C g17 dX12_comesOut_17 (x_istore_n C dX12_comesOut_18 rfl (by decide) rfl (x_iload_n C dX12_comesOut_19 rfl 0 rfl (x_bipush C dX12_comesOut_20 kb_6 (x_icmp_eq C (tgt := 41) dX12_comesOut_22 (by decide) (fun c => ?_) (fun c => ?_)))))))))))
      · have h := ite_t h c
        exact (by
          exact x_vret E h dX12_comesOut_41)
      · have h := ite_f h c
        refine x_iload_n C dX12_comesOut_25 rfl 2 rfl (x_if_eq C (tgt := 42) dX12_comesOut_26 (by decide) (fun c => ?_) (fun c => ?_))
        · have h := ite_t h c
          exact x_perm [1, 2, 0] rfl (w_m_comesOut_j42 C E hKb h)
        · have h := ite_f h c
          refine x_iload_n C dX12_comesOut_29 rfl 0 rfl (x_bipush C dX12_comesOut_30 kb_8 (x_icmp_eq C (tgt := 41) dX12_comesOut_32 (by decide) (fun c => ?_) (fun c => ?_)))
          · have h := ite_t h c
            exact (by
              exact x_vret E h dX12_comesOut_41)
          · have h := ite_f h c
            refine x_iload_n C dX12_comesOut_35 rfl 0 rfl (x_bipush C dX12_comesOut_36 kb_9 (x_icmp_ne C (tgt := 42) dX12_comesOut_38 (by decide) (fun c => ?_) (fun c => ?_)))
            · have h := ite_f h c
              exact x_perm [1, 2, 0] rfl (w_m_comesOut_j42 C E hKb h)
            · have h := ite_t h c
              exact (by
                exact x_vret E h dX12_comesOut_41)
set_option maxHeartbeats 4000000 in
theorem c_m_comesOut {ad : AD} {ek : EK} {lh : Launch} {Dh : va_G} {S' : ST}  {S : ST} {l1 : Int32} (h : m_comesOut S l1 = some S') : MXv lh Dh ad ek (cM ad) yX12_comesOut cX12_comesOut 3 none 2 [.ref (ad.1 0), .int l1] S S' := by
  refine mxv_of (by decide) (Nat.le_of_ble_eq_true rfl) (fun z C E => ?_)
  unfold m_comesOut at h
  exact w_m_comesOut_h0 C E FU _ _ h
set_option maxHeartbeats 4000000 in
theorem w_m_doubles_j62 {z : ZT} {ad : AD} {ek : EK} {lh : Launch} {Dh : va_G} {r : Int32} {S' : ST} (C : CX z ad ek cX12_doubles RX12 lh Dh 2 5) (E : EI z (cM ad) cX12_doubles (some .int) r S') {Kb : ST → Int32 → Int32 → Int32 → Int32 → Option (Int32 × ST)} (hKb : ∀ (S : ST) (l1 : Int32) (l2 : Int32) (l3 : Int32) (l4 : Int32) , Kb S l1 l2 l3 l4 = some (r, S') → XW z (cM ad) 24 [(0, .ref (ad.1 0)), (1, .int l1), (2, .int l2), (3, .int l3), (4, .int l4)] [] S) {S : ST} {l1 : Int32} {l2 : Int32} {l3 : Int32} {l4 : Int32} (h : m_doubles_j62 Kb S l1 l2 l3 l4 = some (r, S')) : XW z (cM ad) 62 [(0, .ref (ad.1 0)), (1, .int l1), (2, .int l2), (3, .int l3), (4, .int l4)] [] S := by
  unfold m_doubles_j62 at h
  exact x_iinc C dX12_doubles_62 4 rfl ki_1 (by decide) rfl (x_goto C (tgt := 24) dX12_doubles_65 (by decide) (x_perm [1, 2, 3, 4, 0] rfl (hKb _ _ _ _ _ h)))
set_option maxHeartbeats 4000000 in
theorem w_m_doubles_h24 {z : ZT} {ad : AD} {ek : EK} {lh : Launch} {Dh : va_G} {r : Int32} {S' : ST} (C : CX z ad ek cX12_doubles RX12 lh Dh 2 5) (E : EI z (cM ad) cX12_doubles (some .int) r S') : ∀ (n : Nat) (S : ST) (l1 : Int32) (l2 : Int32) (l3 : Int32) (l4 : Int32), m_doubles_h24 n S l1 l2 l3 l4 = some (r, S') → XW z (cM ad) 24 [(0, .ref (ad.1 0)), (1, .int l1), (2, .int l2), (3, .int l3), (4, .int l4)] [] S := by
  intro n
  induction n with
  | zero => intro S l1 l2 l3 l4 h; cases h
  | succ n ih =>
    intro S l1 l2 l3 l4 h
    have hKb := ih
    refine x_iload C dX12_doubles_24 4 rfl (x_bipush C dX12_doubles_26 kb_8 (x_icmp_ge C (tgt := 68) dX12_doubles_28 (by decide) (fun c => ?_) (fun c => ?_)))
    · have h := ite_t h c
      exact (by
        exact x_iload_n C dX12_doubles_68 rfl 3 rfl (x_iret E h retI dX12_doubles_69))
    · have h := ite_f h c
      obtain ⟨r37, S37, e37, h⟩ := cal_some h
      refine x_aload_n C dX12_doubles_31 rfl 0 rfl (x_iload_n C dX12_doubles_32 rfl 1 rfl (x_iload C dX12_doubles_33 4 rfl (x_iconst C dX12_doubles_35 kc_0 (x_iload_n C dX12_doubles_36 rfl 2 rfl (x_callVi C (c_m_has e37) k_X12_396 (ci := 12) (q0 := 0) rfl rfl (by decide) (Nat.le_of_ble_eq_true rfl) rfl dX12_doubles_37 (x_if_eq C (tgt := 62) dX12_doubles_40 (by decide) (fun c => ?_) (fun c => ?_)))))))
      · have h := ite_t h c
        exact w_m_doubles_j62 C E hKb h
      · have h := ite_f h c
        obtain ⟨r49, S49, e49, h⟩ := cal_some h
        refine x_aload_n C dX12_doubles_43 rfl 0 rfl (x_iload_n C dX12_doubles_44 rfl 1 rfl (x_iload C dX12_doubles_45 4 rfl (x_iconst C dX12_doubles_47 kc_1 (x_iload_n C dX12_doubles_48 rfl 2 rfl (x_callVi C (c_m_has e49) k_X12_396 (ci := 12) (q0 := 0) rfl rfl (by decide) (Nat.le_of_ble_eq_true rfl) rfl dX12_doubles_49 (x_if_eq C (tgt := 62) dX12_doubles_52 (by decide) (fun c => ?_) (fun c => ?_)))))))
        · have h := ite_t h c
          exact w_m_doubles_j62 C E hKb h
        · have h := ite_f h c
          exact x_iload_n C dX12_doubles_55 rfl 3 rfl (x_iconst C dX12_doubles_56 kc_1 (x_iload C dX12_doubles_57 4 rfl (x_ishl C dX12_doubles_59 (x_ior C dX12_doubles_60 (x_istore_n C dX12_doubles_61 rfl (by decide) rfl (x_perm [1, 2, 3, 0, 4] rfl (w_m_doubles_j62 C E hKb h)))))))
set_option maxHeartbeats 4000000 in
theorem c_m_doubles {ad : AD} {ek : EK} {lh : Launch} {Dh : va_G} {r : Int32} {S' : ST}  {S : ST} {l1 : Int32} {l2 : Int32} (h : m_doubles S l1 l2 = some (r, S')) : MXi lh Dh ad ek (cM ad) yX12_doubles cX12_doubles 5 (some .int) 2 [.ref (ad.1 0), .int l1, .int l2] S r S' := by
  refine mxi_of (by decide) (Nat.le_of_ble_eq_true rfl) (fun z C E => ?_)
  unfold m_doubles at h
  obtain ⟨r3, e3, h⟩ := cal0_some h
  refine x_iload_n C dX12_doubles_0 rfl 1 rfl (x_iconst C dX12_doubles_1 kc_0 (x_iconst C dX12_doubles_2 kc_3 (x_callSi C (c_m_in e3) k_X12_288 (by decide) (Nat.le_of_ble_eq_true rfl) rfl dX12_doubles_3 (x_if_eq C (tgt := 17) dX12_doubles_6 (by decide) (fun c => ?_) (fun c => ?_)))))
  · have h := ite_t h c
    exact x_iconst C dX12_doubles_17 kc_m1 (x_iret E h retI dX12_doubles_18)
  · have h := ite_f h c
    obtain ⟨r11, S11, e11, h⟩ := cal_some h
    refine x_aload_n C dX12_doubles_9 rfl 0 rfl (x_iload_n C dX12_doubles_10 rfl 2 rfl (x_callVi C (c_m_isKnown e11) k_X12_325 (ci := 12) (q0 := 0) rfl rfl (by decide) (Nat.le_of_ble_eq_true rfl) rfl dX12_doubles_11 (x_if_ne C (tgt := 19) dX12_doubles_14 (by decide) (fun c => ?_) (fun c => ?_))))
    · have h := ite_f h c
      exact x_iconst C dX12_doubles_19 kc_0 (x_istore_n C dX12_doubles_20 rfl (by decide) rfl (x_iconst C dX12_doubles_21 kc_0 (x_istore C dX12_doubles_22 (by decide) rfl (x_perm [2, 3, 4, 1, 0] rfl (w_m_doubles_h24 C E FU _ _ _ _ _ h)))))
    · have h := ite_t h c
      exact x_iconst C dX12_doubles_17 kc_m1 (x_iret E h retI dX12_doubles_18)
set_option maxHeartbeats 4000000 in
theorem c_m_feed {ad : AD} {ek : EK} {lh : Launch} {Dh : va_G} {r : Int32} {S' : ST}  {S : ST} {l1 : Int32} {l2 : Int32} {l3 : Int32} {l4 : Int32} {l5 : Int32} (h : m_feed S l1 l2 l3 l4 l5 = some (r, S')) : MXi lh Dh ad ek (cM ad) yX12_feed cX12_feed 6 (some .int) 2 [.ref (ad.1 0), .int l1, .int l2, .int l3, .int l4, .int l5] S r S' := by
  refine mxi_of (by decide) (Nat.le_of_ble_eq_true rfl) (fun z C E => ?_)
  unfold m_feed at h
  refine x_aload_n C dX12_feed_0 rfl 0 rfl (gM_X12_2 C u_5_82 dX12_feed_1 (x_bipush C dX12_feed_4 kb_20 (x_iadd C dX12_feed_6 (x_sipush C dX12_feed_7 ks_2000 (x_icmp_le C (tgt := 15) dX12_feed_10 (by decide) (fun c => ?_) (fun c => ?_))))))
  · have h := ite_t h c
    obtain ⟨S17, e17, h⟩ := calV_some h
    obtain ⟨S22, e22, h⟩ := calV_some h
    obtain ⟨S27, e27, h⟩ := calV_some h
    obtain ⟨S33, e33, h⟩ := calV_some h
    obtain ⟨S39, e39, h⟩ := calV_some h
    exact x_aload_n C dX12_feed_15 rfl 0 rfl (x_iload_n C dX12_feed_16 rfl 1 rfl (x_callVv C (c_m_put e17) k_X12_162 (ci := 12) (q0 := 0) rfl rfl (by decide) (Nat.le_of_ble_eq_true rfl) rfl dX12_feed_17 (x_aload_n C dX12_feed_20 rfl 0 rfl (x_iload_n C dX12_feed_21 rfl 2 rfl (x_callVv C (c_m_put e22) k_X12_162 (ci := 12) (q0 := 0) rfl rfl (by decide) (Nat.le_of_ble_eq_true rfl) rfl dX12_feed_22 (x_aload_n C dX12_feed_25 rfl 0 rfl (x_iload_n C dX12_feed_26 rfl 3 rfl (x_callVv C (c_m_put e27) k_X12_162 (ci := 12) (q0 := 0) rfl rfl (by decide) (Nat.le_of_ble_eq_true rfl) rfl dX12_feed_27 (x_aload_n C dX12_feed_30 rfl 0 rfl (x_iload C dX12_feed_31 4 rfl (x_callVv C (c_m_put e33) k_X12_162 (ci := 12) (q0 := 0) rfl rfl (by decide) (Nat.le_of_ble_eq_true rfl) rfl dX12_feed_33 (x_aload_n C dX12_feed_36 rfl 0 rfl (x_iload C dX12_feed_37 5 rfl (x_callVv C (c_m_put e39) k_X12_162 (ci := 12) (q0 := 0) rfl rfl (by decide) (Nat.le_of_ble_eq_true rfl) rfl dX12_feed_39 (x_aload_n C dX12_feed_42 rfl 0 rfl (gM_X12_2 C u_5_82 dX12_feed_43 (x_iret E h retI dX12_feed_46)))))))))))))))))
  · have h := ite_f h c
    exact x_iconst C dX12_feed_13 kc_m1 (x_iret E h retI dX12_feed_14)
set_option maxHeartbeats 4000000 in
theorem w_m_forces_j89 {z : ZT} {ad : AD} {ek : EK} {lh : Launch} {Dh : va_G} {S' : ST} (C : CX z ad ek cX12_forces RX12 lh Dh 2 5) (E : EV z (cM ad) cX12_forces S') {Kb : ST → Int32 → Int32 → Option ST} (hKb : ∀ (S : ST) (l1 : Int32) (l2 : Int32) , Kb S l1 l2 = some S' → XW z (cM ad) 21 [(0, .ref (ad.1 0)), (1, .int l1), (2, .int l2)] [] S) {S : ST} {l1 : Int32} {l2 : Int32} (h : m_forces_j89 Kb S l1 l2 = some S') : XW z (cM ad) 89 [(0, .ref (ad.1 0)), (1, .int l1), (2, .int l2)] [] S := by
  unfold m_forces_j89 at h
  exact x_iinc C dX12_forces_89 2 rfl ki_1 (by decide) rfl (x_goto C (tgt := 21) dX12_forces_92 (by decide) (x_perm [1, 2, 0] rfl (hKb _ _ _ h)))
set_option maxHeartbeats 4000000 in
theorem w_m_forces_j83 {z : ZT} {ad : AD} {ek : EK} {lh : Launch} {Dh : va_G} {S' : ST} (C : CX z ad ek cX12_forces RX12 lh Dh 2 5) (E : EV z (cM ad) cX12_forces S') {Kb : ST → Int32 → Int32 → Int32 → Option ST} (hKb : ∀ (S : ST) (l1 : Int32) (l2 : Int32) (l3 : Int32) , Kb S l1 l2 l3 = some S' → XW z (cM ad) 28 [(0, .ref (ad.1 0)), (1, .int l1), (2, .int l2), (3, .int l3)] [] S) {K89 : ST → Int32 → Int32 → Option ST} (hK89 : ∀ (S : ST) (l1 : Int32) (l2 : Int32) , K89 S l1 l2 = some S' → XW z (cM ad) 89 [(0, .ref (ad.1 0)), (1, .int l1), (2, .int l2)] [] S) {S : ST} {l1 : Int32} {l2 : Int32} {l3 : Int32} (h : m_forces_j83 Kb K89 S l1 l2 l3 = some S') : XW z (cM ad) 83 [(0, .ref (ad.1 0)), (1, .int l1), (2, .int l2), (3, .int l3)] [] S := by
  unfold m_forces_j83 at h
  exact x_iinc C dX12_forces_83 3 rfl ki_1 (by decide) rfl (x_goto C (tgt := 28) dX12_forces_86 (by decide) (x_perm [1, 2, 3, 0] rfl (hKb _ _ _ _ h)))
set_option maxHeartbeats 4000000 in
theorem w_m_forces_h55 {z : ZT} {ad : AD} {ek : EK} {lh : Launch} {Dh : va_G} {S' : ST} (C : CX z ad ek cX12_forces RX12 lh Dh 2 5) (E : EV z (cM ad) cX12_forces S') {K83 : ST → Int32 → Int32 → Int32 → Option ST} (hK83 : ∀ (S : ST) (l1 : Int32) (l2 : Int32) (l3 : Int32) , K83 S l1 l2 l3 = some S' → XW z (cM ad) 83 [(0, .ref (ad.1 0)), (1, .int l1), (2, .int l2), (3, .int l3)] [] S) : ∀ (n : Nat) (S : ST) (l1 : Int32) (l2 : Int32) (l3 : Int32) (l4 : Int32), m_forces_h55 K83 n S l1 l2 l3 l4 = some S' → XW z (cM ad) 55 [(0, .ref (ad.1 0)), (1, .int l1), (2, .int l2), (3, .int l3), (4, .int l4)] [] S := by
  intro n
  induction n with
  | zero => intro S l1 l2 l3 l4 h; cases h
  | succ n ih =>
    intro S l1 l2 l3 l4 h
    have hKb := ih
    obtain ⟨g66, h⟩ := G_some h
    refine x_iload C dX12_forces_55 4 rfl (x_bipush C dX12_forces_57 kb_24 (x_iload_n C dX12_forces_59 rfl 3 rfl (x_imul C dX12_forces_60 (x_aload_n C dX12_forces_61 rfl 0 rfl (gM_X12_20 C u_5_100 dX12_forces_62 (x_iload_n C dX12_forces_65 rfl 3 rfl (aM_9 C g66 dX12_forces_66 (x_iadd C dX12_forces_67 (x_icmp_ge C (tgt := 83) dX12_forces_68 (by decide) (fun c => ?_) (fun c => ?_))))))))))
    · have h := ite_t h c
      exact x_perm [0, 1, 2, 3] rfl (hK83 _ _ _ _ h)
    · have h := ite_f h c
      obtain ⟨S74, e74, h⟩ := calV_some h
      exact x_aload_n C dX12_forces_71 rfl 0 rfl (x_iload C dX12_forces_72 4 rfl (x_callVv C (c_m_comes e74) k_X12_282 (ci := 12) (q0 := 0) rfl rfl (by decide) (Nat.le_of_ble_eq_true rfl) rfl dX12_forces_74 (x_iinc C dX12_forces_77 4 rfl ki_1 (by decide) rfl (x_goto C (tgt := 55) dX12_forces_80 (by decide) (x_perm [1, 2, 3, 4, 0] rfl (hKb _ _ _ _ _ h))))))
set_option maxHeartbeats 4000000 in
theorem w_m_forces_h28 {z : ZT} {ad : AD} {ek : EK} {lh : Launch} {Dh : va_G} {S' : ST} (C : CX z ad ek cX12_forces RX12 lh Dh 2 5) (E : EV z (cM ad) cX12_forces S') {K89 : ST → Int32 → Int32 → Option ST} (hK89 : ∀ (S : ST) (l1 : Int32) (l2 : Int32) , K89 S l1 l2 = some S' → XW z (cM ad) 89 [(0, .ref (ad.1 0)), (1, .int l1), (2, .int l2)] [] S) : ∀ (n : Nat) (S : ST) (l1 : Int32) (l2 : Int32) (l3 : Int32), m_forces_h28 K89 n S l1 l2 l3 = some S' → XW z (cM ad) 28 [(0, .ref (ad.1 0)), (1, .int l1), (2, .int l2), (3, .int l3)] [] S := by
  intro n
  induction n with
  | zero => intro S l1 l2 l3 h; cases h
  | succ n ih =>
    intro S l1 l2 l3 h
    have hKb := ih
    refine x_iload_n C dX12_forces_28 rfl 3 rfl (x_aload_n C dX12_forces_29 rfl 0 rfl (gM_X12_18 C u_5_98 dX12_forces_30 (x_icmp_ge C (tgt := 89) dX12_forces_33 (by decide) (fun c => ?_) (fun c => ?_))))
    · have h := ite_t h c
      exact x_perm [0, 1, 2] rfl (hK89 _ _ _ h)
    · have h := ite_f h c
      obtain ⟨g41, h⟩ := G_some h
      refine x_aload_n C dX12_forces_36 rfl 0 rfl (gM_X12_19 C u_5_99 dX12_forces_37 (x_iload_n C dX12_forces_40 rfl 3 rfl (aM_8 C g41 dX12_forces_41 (x_iload_n C dX12_forces_42 rfl 2 rfl (x_icmp_eq C (tgt := 49) dX12_forces_43 (by decide) (fun c => ?_) (fun c => ?_))))))
      · have h := ite_t h c
        exact x_bipush C dX12_forces_49 kb_24 (x_iload_n C dX12_forces_51 rfl 3 rfl (x_imul C dX12_forces_52 (x_istore C dX12_forces_53 (by decide) rfl (x_perm [1, 2, 3, 4, 0] rfl (w_m_forces_h55 C E (fun _ _ _ _ h => w_m_forces_j83 C E hKb hK89 h) FU _ _ _ _ _ h)))))
      · have h := ite_f h c
        exact x_goto C (tgt := 83) dX12_forces_46 (by decide) (w_m_forces_j83 C E hKb hK89 h)
set_option maxHeartbeats 4000000 in
theorem w_m_forces_h21 {z : ZT} {ad : AD} {ek : EK} {lh : Launch} {Dh : va_G} {S' : ST} (C : CX z ad ek cX12_forces RX12 lh Dh 2 5) (E : EV z (cM ad) cX12_forces S') : ∀ (n : Nat) (S : ST) (l1 : Int32) (l2 : Int32), m_forces_h21 n S l1 l2 = some S' → XW z (cM ad) 21 [(0, .ref (ad.1 0)), (1, .int l1), (2, .int l2)] [] S := by
  intro n
  induction n with
  | zero => intro S l1 l2 h; cases h
  | succ n ih =>
    intro S l1 l2 h
    have hKb := ih
    refine x_iload_n C dX12_forces_21 rfl 2 rfl (x_iload_n C dX12_forces_22 rfl 1 rfl (x_icmp_gt C (tgt := 95) dX12_forces_23 (by decide) (fun c => ?_) (fun c => ?_)))
    · have h := ite_t h c
      exact (by
        exact x_vret E h dX12_forces_95)
    · have h := ite_f h c
      exact x_iconst C dX12_forces_26 kc_0 (x_istore_n C dX12_forces_27 rfl (by decide) rfl (x_perm [1, 2, 3, 0] rfl (w_m_forces_h28 C E (fun _ _ _ h => w_m_forces_j89 C E hKb h) FU _ _ _ _ h)))
set_option maxHeartbeats 4000000 in
theorem c_m_forces {ad : AD} {ek : EK} {lh : Launch} {Dh : va_G} {S' : ST}  {S : ST} {l1 : Int32} (h : m_forces S l1 = some S') : MXv lh Dh ad ek (cM ad) yX12_forces cX12_forces 5 none 2 [.ref (ad.1 0), .int l1] S S' := by
  refine mxv_of (by decide) (Nat.le_of_ble_eq_true rfl) (fun z C E => ?_)
  unfold m_forces at h
  refine x_aload_n C dX12_forces_0 rfl 0 rfl (gM_X12_42 C u_5_122 dX12_forces_1 (x_iload_n C dX12_forces_4 rfl 1 rfl (x_icmp_ne C (tgt := 9) dX12_forces_5 (by decide) (fun c => ?_) (fun c => ?_))))
  · have h := ite_f h c
    exact x_aload_n C dX12_forces_9 rfl 0 rfl (x_iload_n C dX12_forces_10 rfl 1 rfl (pM_X12_42 C u_5_122 dX12_forces_11 (x_aload_n C dX12_forces_14 rfl 0 rfl (x_iconst C dX12_forces_15 kc_0 (pM_X12_43 C u_5_123 dX12_forces_16 (x_iconst C dX12_forces_19 kc_0 (x_istore_n C dX12_forces_20 rfl (by decide) rfl (x_perm [1, 2, 0] rfl (w_m_forces_h21 C E FU _ _ _ h)))))))))
  · have h := ite_t h c
    exact x_vret E h dX12_forces_8
set_option maxHeartbeats 4000000 in
theorem c_m_isDay {ad : AD} {ek : EK} {lh : Launch} {Dh : va_G} {w : ST → va_W} {S0 : ST} {r : Int32}  {l0 : Int32} (h : m_isDay l0 = some r) : MXi lh Dh ad ek w yX12_isDay cX12_isDay 1 (some .boolean) 2 [.int l0] S0 r S0 := by
  refine mxi_of (by decide) (Nat.le_of_ble_eq_true rfl) (fun z C E => ?_)
  unfold m_isDay at h
  obtain ⟨r4, e4, h⟩ := cal0_some h
  obtain ⟨g7, h⟩ := G_some h
  exact x_iload_n C dX12_isDay_0 rfl 0 rfl (x_iconst C dX12_isDay_1 kc_0 (x_bipush C dX12_isDay_2 kb_99 (x_callSi C (c_m_in e4) k_X12_288 (by decide) (Nat.le_of_ble_eq_true rfl) rfl dX12_isDay_4 (x_iret0 E h (retB g7) dX12_isDay_7))))
set_option maxHeartbeats 4000000 in
theorem c_m_isMember {ad : AD} {ek : EK} {lh : Launch} {Dh : va_G} {w : ST → va_W} {S0 : ST} {r : Int32}  {l0 : Int32} (h : m_isMember l0 = some r) : MXi lh Dh ad ek w yX12_isMember cX12_isMember 1 (some .boolean) 2 [.int l0] S0 r S0 := by
  refine mxi_of (by decide) (Nat.le_of_ble_eq_true rfl) (fun z C E => ?_)
  unfold m_isMember at h
  obtain ⟨r4, e4, h⟩ := cal0_some h
  obtain ⟨g7, h⟩ := G_some h
  exact x_iload_n C dX12_isMember_0 rfl 0 rfl (x_iconst C dX12_isMember_1 kc_0 (x_bipush C dX12_isMember_2 kb_7 (x_callSi C (c_m_in e4) k_X12_288 (by decide) (Nat.le_of_ble_eq_true rfl) rfl dX12_isMember_4 (x_iret0 E h (retB g7) dX12_isMember_7))))
set_option maxHeartbeats 4000000 in
theorem c_m_isMend {ad : AD} {ek : EK} {lh : Launch} {Dh : va_G} {r : Int32} {S' : ST}  {S : ST} {l1 : Int32} {l2 : Int32} (h : m_isMend S l1 l2 = some (r, S')) : MXi lh Dh ad ek (cM ad) yX12_isMend cX12_isMend 3 (some .boolean) 2 [.ref (ad.1 0), .int l1, .int l2] S r S' := by
  refine mxi_of (by decide) (Nat.le_of_ble_eq_true rfl) (fun z C E => ?_)
  unfold m_isMend at h
  obtain ⟨r2, S2, e2, h⟩ := cal_some h
  refine x_aload_n C dX12_isMend_0 rfl 0 rfl (x_iload_n C dX12_isMend_1 rfl 2 rfl (x_callVi C (c_m_isKnown e2) k_X12_325 (ci := 12) (q0 := 0) rfl rfl (by decide) (Nat.le_of_ble_eq_true rfl) rfl dX12_isMend_2 (x_if_eq C (tgt := 31) dX12_isMend_5 (by decide) (fun c => ?_) (fun c => ?_))))
  · have h := ite_t h c
    exact x_iconst C dX12_isMend_31 kc_0 (x_iret E h (retB rfl) dX12_isMend_32)
  · have h := ite_f h c
    refine x_iload_n C dX12_isMend_8 rfl 1 rfl (x_if_lt C (tgt := 31) dX12_isMend_9 (by decide) (fun c => ?_) (fun c => ?_))
    · have h := ite_t h c
      exact x_iconst C dX12_isMend_31 kc_0 (x_iret E h (retB rfl) dX12_isMend_32)
    · have h := ite_f h c
      refine x_iload_n C dX12_isMend_12 rfl 1 rfl (x_iload_n C dX12_isMend_13 rfl 2 rfl (x_icmp_ge C (tgt := 31) dX12_isMend_14 (by decide) (fun c => ?_) (fun c => ?_)))
      · have h := ite_t h c
        exact x_iconst C dX12_isMend_31 kc_0 (x_iret E h (retB rfl) dX12_isMend_32)
      · have h := ite_f h c
        obtain ⟨g22, h⟩ := G_some h
        refine x_aload_n C dX12_isMend_17 rfl 0 rfl (gM_X12_46 C u_5_126 dX12_isMend_18 (x_iload_n C dX12_isMend_21 rfl 1 rfl (aM_28 C g22 dX12_isMend_22 (x_iconst C dX12_isMend_23 kc_4 (x_icmp_ne C (tgt := 31) dX12_isMend_24 (by decide) (fun c => ?_) (fun c => ?_))))))
        · have h := ite_f h c
          exact x_iconst C dX12_isMend_31 kc_0 (x_iret E h (retB rfl) dX12_isMend_32)
        · have h := ite_t h c
          exact x_iconst C dX12_isMend_27 kc_1 (x_goto C (tgt := 32) dX12_isMend_28 (by decide) (x_iret E h (retB rfl) dX12_isMend_32))
set_option maxHeartbeats 4000000 in
theorem c_m_isMinute {ad : AD} {ek : EK} {lh : Launch} {Dh : va_G} {w : ST → va_W} {S0 : ST} {r : Int32}  {l0 : Int32} (h : m_isMinute l0 = some r) : MXi lh Dh ad ek w yX12_isMinute cX12_isMinute 1 (some .boolean) 2 [.int l0] S0 r S0 := by
  refine mxi_of (by decide) (Nat.le_of_ble_eq_true rfl) (fun z C E => ?_)
  unfold m_isMinute at h
  obtain ⟨r5, e5, h⟩ := cal0_some h
  obtain ⟨g8, h⟩ := G_some h
  exact x_iload_n C dX12_isMinute_0 rfl 0 rfl (x_iconst C dX12_isMinute_1 kc_0 (x_sipush C dX12_isMinute_2 ks_239 (x_callSi C (c_m_in e5) k_X12_288 (by decide) (Nat.le_of_ble_eq_true rfl) rfl dX12_isMinute_5 (x_iret0 E h (retB g8) dX12_isMinute_8))))
set_option maxHeartbeats 4000000 in
theorem c_m_isSeat {ad : AD} {ek : EK} {lh : Launch} {Dh : va_G} {w : ST → va_W} {S0 : ST} {r : Int32}  {l0 : Int32} (h : m_isSeat l0 = some r) : MXi lh Dh ad ek w yX12_isSeat cX12_isSeat 1 (some .boolean) 2 [.int l0] S0 r S0 := by
  refine mxi_of (by decide) (Nat.le_of_ble_eq_true rfl) (fun z C E => ?_)
  unfold m_isSeat at h
  obtain ⟨r4, e4, h⟩ := cal0_some h
  obtain ⟨g7, h⟩ := G_some h
  exact x_iload_n C dX12_isSeat_0 rfl 0 rfl (x_iconst C dX12_isSeat_1 kc_0 (x_bipush C dX12_isSeat_2 kb_9 (x_callSi C (c_m_in e4) k_X12_288 (by decide) (Nat.le_of_ble_eq_true rfl) rfl dX12_isSeat_4 (x_iret0 E h (retB g7) dX12_isSeat_7))))
set_option maxHeartbeats 4000000 in
theorem w_m_isTrue_j155 {z : ZT} {ad : AD} {ek : EK} {lh : Launch} {Dh : va_G} {r : Int32} {S' : ST} (C : CX z ad ek cX12_isTrue RX12 lh Dh 2 6) (E : EI z (cM ad) cX12_isTrue (some .boolean) r S') {S : ST} {l1 : Int32} {s0 : Int32} (h : m_isTrue_j155 S l1 s0 = some (r, S')) : XW z (cM ad) 155 [(0, .ref (ad.1 0)), (1, .int l1)] [.int s0] S := by
  unfold m_isTrue_j155 at h
  obtain ⟨g160, h⟩ := G_some h
  refine x_aload_n C dX12_isTrue_155 rfl 0 rfl (gM_X12_29 C u_5_109 dX12_isTrue_156 (x_iload_n C dX12_isTrue_159 rfl 1 rfl (aM_17 C g160 dX12_isTrue_160 (x_icmp_eq C (tgt := 168) dX12_isTrue_161 (by decide) (fun c => ?_) (fun c => ?_)))))
  · have h := ite_t h c
    exact x_iconst C dX12_isTrue_168 kc_0 (x_iret E h (retB rfl) dX12_isTrue_169)
  · have h := ite_f h c
    exact x_iconst C dX12_isTrue_164 kc_1 (x_goto C (tgt := 169) dX12_isTrue_165 (by decide) (x_iret E h (retB rfl) dX12_isTrue_169))
set_option maxHeartbeats 4000000 in
theorem w_m_isTrue_j154 {z : ZT} {ad : AD} {ek : EK} {lh : Launch} {Dh : va_G} {r : Int32} {S' : ST} (C : CX z ad ek cX12_isTrue RX12 lh Dh 2 6) (E : EI z (cM ad) cX12_isTrue (some .boolean) r S') {S : ST} {l1 : Int32} (h : m_isTrue_j154 S l1 = some (r, S')) : XW z (cM ad) 154 [(0, .ref (ad.1 0)), (1, .int l1)] [] S := by
  unfold m_isTrue_j154 at h
  exact x_iconst C dX12_isTrue_154 kc_0 (w_m_isTrue_j155 C E h)
set_option maxHeartbeats 4000000 in
theorem w_m_isTrue_j139 {z : ZT} {ad : AD} {ek : EK} {lh : Launch} {Dh : va_G} {r : Int32} {S' : ST} (C : CX z ad ek cX12_isTrue RX12 lh Dh 2 6) (E : EI z (cM ad) cX12_isTrue (some .boolean) r S') {S : ST} {l1 : Int32} {l3 : Int32} {s0 : Int32} (h : m_isTrue_j139 S l1 l3 s0 = some (r, S')) : XW z (cM ad) 139 [(0, .ref (ad.1 0)), (1, .int l1), (3, .int l3)] [.int s0] S := by
  unfold m_isTrue_j139 at h
  refine x_istore C dX12_isTrue_139 (by decide) rfl (x_iload C dX12_isTrue_141 0 rfl (x_if_eq C (tgt := 154) dX12_isTrue_143 (by decide) (fun c => ?_) (fun c => ?_)))
  · have h := ite_t h c
    exact x_perm [1, 2] rfl (w_m_isTrue_j154 C E h)
  · have h := ite_f h c
    refine x_iload_n C dX12_isTrue_146 rfl 3 rfl (x_if_ne C (tgt := 154) dX12_isTrue_147 (by decide) (fun c => ?_) (fun c => ?_))
    · have h := ite_f h c
      exact x_perm [1, 2] rfl (w_m_isTrue_j154 C E h)
    · have h := ite_t h c
      exact x_iconst C dX12_isTrue_150 kc_1 (x_goto C (tgt := 155) dX12_isTrue_151 (by decide) (x_perm [1, 2] rfl (w_m_isTrue_j155 C E h)))
set_option maxHeartbeats 4000000 in
theorem w_m_isTrue_j56 {z : ZT} {ad : AD} {ek : EK} {lh : Launch} {Dh : va_G} {r : Int32} {S' : ST} (C : CX z ad ek cX12_isTrue RX12 lh Dh 2 6) (E : EI z (cM ad) cX12_isTrue (some .boolean) r S') {S : ST} {l1 : Int32} {l2 : Int32} {l4 : Int32} {s0 : Int32} (h : m_isTrue_j56 S l1 l2 l4 s0 = some (r, S')) : XW z (cM ad) 56 [(0, .ref (ad.1 0)), (1, .int l1), (2, .int l2), (4, .int l4)] [.int s0] S := by
  unfold m_isTrue_j56 at h
  obtain ⟨g62, h⟩ := G_some h
  refine x_istore_n C dX12_isTrue_56 rfl (by decide) rfl (x_aload_n C dX12_isTrue_57 rfl 1 rfl (gM_X12_28 C u_5_108 dX12_isTrue_58 (x_iload_n C dX12_isTrue_61 rfl 2 rfl (aM_16 C g62 dX12_isTrue_62 (x_if_ne C (tgt := 80) dX12_isTrue_63 (by decide) (fun c => ?_) (fun c => ?_))))))
  · have h := ite_f h c
    obtain ⟨g85, h⟩ := G_some h
    refine x_aload_n C dX12_isTrue_80 rfl 1 rfl (gM_X12_28 C u_5_108 dX12_isTrue_81 (x_iload_n C dX12_isTrue_84 rfl 2 rfl (aM_16 C g85 dX12_isTrue_85 (x_iconst C dX12_isTrue_86 kc_1 (x_icmp_ne C (tgt := 104) dX12_isTrue_87 (by decide) (fun c => ?_) (fun c => ?_))))))
    · have h := ite_f h c
      obtain ⟨g109, h⟩ := G_some h
      refine x_aload_n C dX12_isTrue_104 rfl 1 rfl (gM_X12_28 C u_5_108 dX12_isTrue_105 (x_iload_n C dX12_isTrue_108 rfl 2 rfl (aM_16 C g109 dX12_isTrue_109 (x_iconst C dX12_isTrue_110 kc_2 (x_icmp_ne C (tgt := 128) dX12_isTrue_111 (by decide) (fun c => ?_) (fun c => ?_))))))
      · have h := ite_f h c
        refine x_iload_n C dX12_isTrue_128 rfl 3 rfl (x_iload C dX12_isTrue_129 4 rfl (x_icmp_gt C (tgt := 138) dX12_isTrue_131 (by decide) (fun c => ?_) (fun c => ?_)))
        · have h := ite_t h c
          exact x_iconst C dX12_isTrue_138 kc_0 (x_perm [1, 2, 0] rfl (w_m_isTrue_j139 C E h))
        · have h := ite_f h c
          exact x_iconst C dX12_isTrue_134 kc_1 (x_goto C (tgt := 139) dX12_isTrue_135 (by decide) (x_perm [1, 2, 0] rfl (w_m_isTrue_j139 C E h)))
      · have h := ite_t h c
        refine x_iload_n C dX12_isTrue_114 rfl 3 rfl (x_iload C dX12_isTrue_115 4 rfl (x_icmp_ge C (tgt := 124) dX12_isTrue_117 (by decide) (fun c => ?_) (fun c => ?_)))
        · have h := ite_t h c
          exact x_iconst C dX12_isTrue_124 kc_0 (x_goto C (tgt := 139) dX12_isTrue_125 (by decide) (x_perm [1, 2, 0] rfl (w_m_isTrue_j139 C E h)))
        · have h := ite_f h c
          exact x_iconst C dX12_isTrue_120 kc_1 (x_goto C (tgt := 139) dX12_isTrue_121 (by decide) (x_perm [1, 2, 0] rfl (w_m_isTrue_j139 C E h)))
    · have h := ite_t h c
      refine x_iload_n C dX12_isTrue_90 rfl 3 rfl (x_iload C dX12_isTrue_91 4 rfl (x_icmp_eq C (tgt := 100) dX12_isTrue_93 (by decide) (fun c => ?_) (fun c => ?_)))
      · have h := ite_t h c
        exact x_iconst C dX12_isTrue_100 kc_0 (x_goto C (tgt := 139) dX12_isTrue_101 (by decide) (x_perm [1, 2, 0] rfl (w_m_isTrue_j139 C E h)))
      · have h := ite_f h c
        exact x_iconst C dX12_isTrue_96 kc_1 (x_goto C (tgt := 139) dX12_isTrue_97 (by decide) (x_perm [1, 2, 0] rfl (w_m_isTrue_j139 C E h)))
  · have h := ite_t h c
    refine x_iload_n C dX12_isTrue_66 rfl 3 rfl (x_iload C dX12_isTrue_67 4 rfl (x_icmp_ne C (tgt := 76) dX12_isTrue_69 (by decide) (fun c => ?_) (fun c => ?_)))
    · have h := ite_f h c
      exact x_iconst C dX12_isTrue_76 kc_0 (x_goto C (tgt := 139) dX12_isTrue_77 (by decide) (x_perm [1, 2, 0] rfl (w_m_isTrue_j139 C E h)))
    · have h := ite_t h c
      exact x_iconst C dX12_isTrue_72 kc_1 (x_goto C (tgt := 139) dX12_isTrue_73 (by decide) (x_perm [1, 2, 0] rfl (w_m_isTrue_j139 C E h)))
set_option maxHeartbeats 4000000 in
theorem w_m_isTrue_j51 {z : ZT} {ad : AD} {ek : EK} {lh : Launch} {Dh : va_G} {r : Int32} {S' : ST} (C : CX z ad ek cX12_isTrue RX12 lh Dh 2 6) (E : EI z (cM ad) cX12_isTrue (some .boolean) r S') {S : ST} {l1 : Int32} {l2 : Int32} {l4 : Int32} (h : m_isTrue_j51 S l1 l2 l4 = some (r, S')) : XW z (cM ad) 51 [(0, .ref (ad.1 0)), (1, .int l1), (2, .int l2), (4, .int l4)] [] S := by
  unfold m_isTrue_j51 at h
  exact x_iconst C dX12_isTrue_51 kc_1 (x_goto C (tgt := 56) dX12_isTrue_52 (by decide) (w_m_isTrue_j56 C E h))
set_option maxHeartbeats 4000000 in
theorem c_m_isTrue {ad : AD} {ek : EK} {lh : Launch} {Dh : va_G} {r : Int32} {S' : ST}  {S : ST} {l1 : Int32} (h : m_isTrue S l1 = some (r, S')) : MXi lh Dh ad ek (cM ad) yX12_isTrue cX12_isTrue 6 (some .boolean) 2 [.ref (ad.1 0), .int l1] S r S' := by
  refine mxi_of (by decide) (Nat.le_of_ble_eq_true rfl) (fun z C E => ?_)
  unfold m_isTrue at h
  obtain ⟨g6, h⟩ := G_some h
  obtain ⟨g12, h⟩ := G_some h
  obtain ⟨r13, S13, e13, h⟩ := cal_some h
  obtain ⟨g28, h⟩ := G_some h
  obtain ⟨g34, h⟩ := G_some h
  obtain ⟨r35, S35, e35, h⟩ := cal_some h
  refine x_aload_n C dX12_isTrue_0 rfl 0 rfl (x_aload_n C dX12_isTrue_1 rfl 0 rfl (gM_X12_31 C u_5_111 dX12_isTrue_2 (x_iload_n C dX12_isTrue_5 rfl 1 rfl (aM_19 C g6 dX12_isTrue_6 (x_aload_n C dX12_isTrue_7 rfl 0 rfl (gM_X12_32 C u_5_112 dX12_isTrue_8 (x_iload_n C dX12_isTrue_11 rfl 1 rfl (aM_20 C g12 dX12_isTrue_12 (x_callVi C (c_m_termOf e13) k_X12_272 (ci := 12) (q0 := 0) rfl rfl (by decide) (Nat.le_of_ble_eq_true rfl) rfl dX12_isTrue_13 (x_istore_n C dX12_isTrue_16 rfl (by decide) rfl (x_aload_n C dX12_isTrue_17 rfl 1 rfl (gM_X12_41 C u_5_121 dX12_isTrue_18 (x_istore_n C dX12_isTrue_21 rfl (by decide) rfl (x_aload_n C dX12_isTrue_22 rfl 2 rfl (x_aload_n C dX12_isTrue_23 rfl 2 rfl (gM_X12_32 C u_5_112 dX12_isTrue_24 (x_iload_n C dX12_isTrue_27 rfl 3 rfl (aM_20 C g28 dX12_isTrue_28 (x_aload_n C dX12_isTrue_29 rfl 2 rfl (gM_X12_33 C u_5_113 dX12_isTrue_30 (x_iload_n C dX12_isTrue_33 rfl 3 rfl (aM_21 C g34 dX12_isTrue_34 (x_callVi C (c_m_termOf e35) k_X12_272 (ci := 12) (q0 := 0) rfl rfl (by decide) (Nat.le_of_ble_eq_true rfl) rfl dX12_isTrue_35 (x_istore C dX12_isTrue_38 (by decide) rfl (x_iload_n C dX12_isTrue_40 rfl 1 rfl (x_if_ne C (tgt := 51) dX12_isTrue_41 (by decide) (fun c => ?_) (fun c => ?_)))))))))))))))))))))))))))
  · have h := ite_f h c
    exact x_perm [3, 4, 2, 0] rfl (w_m_isTrue_j51 C E h)
  · have h := ite_t h c
    refine x_aload_n C dX12_isTrue_44 rfl 3 rfl (gM_X12_41 C u_5_121 dX12_isTrue_45 (x_if_eq C (tgt := 55) dX12_isTrue_48 (by decide) (fun c => ?_) (fun c => ?_)))
    · have h := ite_t h c
      exact x_iconst C dX12_isTrue_55 kc_0 (x_perm [3, 4, 2, 0] rfl (w_m_isTrue_j56 C E h))
    · have h := ite_f h c
      exact x_perm [3, 4, 2, 0] rfl (w_m_isTrue_j51 C E h)
set_option maxHeartbeats 4000000 in
theorem c_m_isWord {ad : AD} {ek : EK} {lh : Launch} {Dh : va_G} {w : ST → va_W} {S0 : ST} {r : Int32}  {l0 : Int32} (h : m_isWord l0 = some r) : MXi lh Dh ad ek w yX12_isWord cX12_isWord 1 (some .boolean) 2 [.int l0] S0 r S0 := by
  refine mxi_of (by decide) (Nat.le_of_ble_eq_true rfl) (fun z C E => ?_)
  unfold m_isWord at h
  obtain ⟨r5, e5, h⟩ := cal0_some h
  obtain ⟨g8, h⟩ := G_some h
  exact x_iload_n C dX12_isWord_0 rfl 0 rfl (x_iconst C dX12_isWord_1 kc_1 (x_sipush C dX12_isWord_2 ks_999 (x_callSi C (c_m_in e5) k_X12_288 (by decide) (Nat.le_of_ble_eq_true rfl) rfl dX12_isWord_5 (x_iret0 E h (retB g8) dX12_isWord_8))))
set_option maxHeartbeats 4000000 in
theorem w_m_join_j34 {z : ZT} {ad : AD} {ek : EK} {lh : Launch} {Dh : va_G} {r : Int32} {S' : ST} (C : CX z ad ek cX12_join RX12 lh Dh 2 3) (E : EI z (cM ad) cX12_join (some .int) r S') {Kb : ST → Int32 → Int32 → Option (Int32 × ST)} (hKb : ∀ (S : ST) (l1 : Int32) (l2 : Int32) , Kb S l1 l2 = some (r, S') → XW z (cM ad) 4 [(0, .ref (ad.1 0)), (1, .int l1), (2, .int l2)] [] S) {S : ST} {l1 : Int32} {l2 : Int32} (h : m_join_j34 Kb S l1 l2 = some (r, S')) : XW z (cM ad) 34 [(0, .ref (ad.1 0)), (1, .int l1), (2, .int l2)] [] S := by
  unfold m_join_j34 at h
  exact x_iinc C dX12_join_34 2 rfl ki_1 (by decide) rfl (x_goto C (tgt := 4) dX12_join_37 (by decide) (x_perm [1, 2, 0] rfl (hKb _ _ _ h)))
set_option maxHeartbeats 4000000 in
theorem w_m_join_h4 {z : ZT} {ad : AD} {ek : EK} {lh : Launch} {Dh : va_G} {r : Int32} {S' : ST} (C : CX z ad ek cX12_join RX12 lh Dh 2 3) (E : EI z (cM ad) cX12_join (some .int) r S') : ∀ (n : Nat) (S : ST) (l1 : Int32) (l2 : Int32), m_join_h4 n S l1 l2 = some (r, S') → XW z (cM ad) 4 [(0, .ref (ad.1 0)), (1, .int l1), (2, .int l2)] [] S := by
  intro n
  induction n with
  | zero => intro S l1 l2 h; cases h
  | succ n ih =>
    intro S l1 l2 h
    have hKb := ih
    obtain ⟨g10, h⟩ := G_some h
    refine x_iload_n C dX12_join_4 rfl 2 rfl (x_aload_n C dX12_join_5 rfl 0 rfl (gM_X12_63 C u_5_143 dX12_join_6 (x_iconst C dX12_join_9 kc_0 (aM_38 C g10 dX12_join_10 (x_icmp_gt C (tgt := 40) dX12_join_11 (by decide) (fun c => ?_) (fun c => ?_))))))
    · have h := ite_t h c
      exact (by
        exact x_iload_n C dX12_join_40 rfl 1 rfl (x_iret E h retI dX12_join_41))
    · have h := ite_f h c
      obtain ⟨g20, h⟩ := G_some h
      refine x_iload_n C dX12_join_14 rfl 2 rfl (x_aload_n C dX12_join_15 rfl 0 rfl (gM_X12_63 C u_5_143 dX12_join_16 (x_iconst C dX12_join_19 kc_1 (aM_38 C g20 dX12_join_20 (x_icmp_gt C (tgt := 40) dX12_join_21 (by decide) (fun c => ?_) (fun c => ?_))))))
      · have h := ite_t h c
        exact (by
          exact x_iload_n C dX12_join_40 rfl 1 rfl (x_iret E h retI dX12_join_41))
      · have h := ite_f h c
        obtain ⟨r26, S26, e26, h⟩ := cal_some h
        refine x_aload_n C dX12_join_24 rfl 0 rfl (x_iload_n C dX12_join_25 rfl 2 rfl (x_callVi C (c_m_joins e26) k_X12_386 (ci := 12) (q0 := 0) rfl rfl (by decide) (Nat.le_of_ble_eq_true rfl) rfl dX12_join_26 (x_if_eq C (tgt := 34) dX12_join_29 (by decide) (fun c => ?_) (fun c => ?_))))
        · have h := ite_t h c
          exact w_m_join_j34 C E hKb h
        · have h := ite_f h c
          exact x_iload_n C dX12_join_32 rfl 2 rfl (x_istore_n C dX12_join_33 rfl (by decide) rfl (x_perm [1, 0, 2] rfl (w_m_join_j34 C E hKb h)))
set_option maxHeartbeats 4000000 in
theorem c_m_join {ad : AD} {ek : EK} {lh : Launch} {Dh : va_G} {r : Int32} {S' : ST}  {S : ST} (h : m_join S = some (r, S')) : MXi lh Dh ad ek (cM ad) yX12_join cX12_join 3 (some .int) 2 [.ref (ad.1 0)] S r S' := by
  refine mxi_of (by decide) (Nat.le_of_ble_eq_true rfl) (fun z C E => ?_)
  unfold m_join at h
  exact x_iconst C dX12_join_0 kc_0 (x_istore_n C dX12_join_1 rfl (by decide) rfl (x_iconst C dX12_join_2 kc_1 (x_istore_n C dX12_join_3 rfl (by decide) rfl (x_perm [2, 1, 0] rfl (w_m_join_h4 C E FU _ _ _ h)))))
set_option maxHeartbeats 4000000 in
theorem c_m_next {ad : AD} {ek : EK} {lh : Launch} {Dh : va_G} {S' : ST}  {S : ST} (h : m_next S = some S') : MXv lh Dh ad ek (cM ad) yX12_next cX12_next 1 none 2 [.ref (ad.1 0)] S S' := by
  refine mxv_of (by decide) (Nat.le_of_ble_eq_true rfl) (fun z C E => ?_)
  unfold m_next at h
  refine x_aload_n C dX12_next_0 rfl 0 rfl (gM_X12_11 C u_5_91 dX12_next_1 (x_sipush C dX12_next_4 ks_400 (x_icmp_ne C (tgt := 18) dX12_next_7 (by decide) (fun c => ?_) (fun c => ?_))))
  · have h := ite_f h c
    exact x_aload_n C dX12_next_18 rfl 0 rfl (x_dup C dX12_next_19 rfl (gM_X12_11 C u_5_91 dX12_next_20 (x_iconst C dX12_next_23 kc_1 (x_iadd C dX12_next_24 (pM_X12_11 C u_5_91 dX12_next_25 (x_vret E h dX12_next_28))))))
  · have h := ite_t h c
    obtain ⟨S12, e12, h⟩ := calV_some h
    exact x_aload_n C dX12_next_10 rfl 0 rfl (x_iconst C dX12_next_11 kc_2 (x_callVv C (c_m_fail e12) k_X12_212 (ci := 12) (q0 := 0) rfl rfl (by decide) (Nat.le_of_ble_eq_true rfl) rfl dX12_next_12 (x_goto C (tgt := 28) dX12_next_15 (by decide) (x_vret E h dX12_next_28))))
set_option maxHeartbeats 4000000 in
theorem c_m_paper {ad : AD} {ek : EK} {lh : Launch} {Dh : va_G} {r : Int32} {S' : ST}  {S : ST} {l1 : Int32} {l2 : Int32} {l3 : Int32} (h : m_paper S l1 l2 l3 = some (r, S')) : MXi lh Dh ad ek (cM ad) yX12_paper cX12_paper 4 (some .int) 2 [.ref (ad.1 0), .int l1, .int l2, .int l3] S r S' := by
  refine mxi_of (by decide) (Nat.le_of_ble_eq_true rfl) (fun z C E => ?_)
  unfold m_paper at h
  refine x_aload_n C dX12_paper_0 rfl 0 rfl (gM_X12_45 C u_5_125 dX12_paper_1 (x_sipush C dX12_paper_4 ks_180 (x_icmp_eq C (tgt := 40) dX12_paper_7 (by decide) (fun c => ?_) (fun c => ?_))))
  · have h := ite_t h c
    exact x_iconst C dX12_paper_40 kc_m1 (x_goto C (tgt := 56) dX12_paper_41 (by decide) (x_iret E h retI dX12_paper_56))
  · have h := ite_f h c
    obtain ⟨r13, e13, h⟩ := cal0_some h
    refine x_iload_n C dX12_paper_10 rfl 1 rfl (x_iconst C dX12_paper_11 kc_0 (x_iconst C dX12_paper_12 kc_3 (x_callSi C (c_m_in e13) k_X12_288 (by decide) (Nat.le_of_ble_eq_true rfl) rfl dX12_paper_13 (x_if_eq C (tgt := 40) dX12_paper_16 (by decide) (fun c => ?_) (fun c => ?_)))))
    · have h := ite_t h c
      exact x_iconst C dX12_paper_40 kc_m1 (x_goto C (tgt := 56) dX12_paper_41 (by decide) (x_iret E h retI dX12_paper_56))
    · have h := ite_f h c
      obtain ⟨r23, e23, h⟩ := cal0_some h
      refine x_iload_n C dX12_paper_19 rfl 2 rfl (x_iconst C dX12_paper_20 kc_0 (x_bipush C dX12_paper_21 kb_9 (x_callSi C (c_m_in e23) k_X12_288 (by decide) (Nat.le_of_ble_eq_true rfl) rfl dX12_paper_23 (x_if_eq C (tgt := 40) dX12_paper_26 (by decide) (fun c => ?_) (fun c => ?_)))))
      · have h := ite_t h c
        exact x_iconst C dX12_paper_40 kc_m1 (x_goto C (tgt := 56) dX12_paper_41 (by decide) (x_iret E h retI dX12_paper_56))
      · have h := ite_f h c
        obtain ⟨r34, e34, h⟩ := cal0_some h
        refine x_iload_n C dX12_paper_29 rfl 3 rfl (x_iconst C dX12_paper_30 kc_0 (x_sipush C dX12_paper_31 ks_999 (x_callSi C (c_m_in e34) k_X12_288 (by decide) (Nat.le_of_ble_eq_true rfl) rfl dX12_paper_34 (x_if_ne C (tgt := 44) dX12_paper_37 (by decide) (fun c => ?_) (fun c => ?_)))))
        · have h := ite_f h c
          obtain ⟨r53, S53, e53, h⟩ := cal_some h
          exact x_aload_n C dX12_paper_44 rfl 0 rfl (x_iconst C dX12_paper_45 kc_3 (x_iconst C dX12_paper_46 kc_m1 (x_iload_n C dX12_paper_47 rfl 1 rfl (x_iload_n C dX12_paper_48 rfl 2 rfl (x_iload_n C dX12_paper_49 rfl 3 rfl (x_iconst C dX12_paper_50 kc_0 (x_iconst C dX12_paper_51 kc_0 (x_iconst C dX12_paper_52 kc_0 (x_callVi C (c_m_tells e53) k_X12_310 (ci := 12) (q0 := 0) rfl rfl (by decide) (Nat.le_of_ble_eq_true rfl) rfl dX12_paper_53 (x_iret E h retI dX12_paper_56))))))))))
        · have h := ite_t h c
          exact x_iconst C dX12_paper_40 kc_m1 (x_goto C (tgt := 56) dX12_paper_41 (by decide) (x_iret E h retI dX12_paper_56))
set_option maxHeartbeats 4000000 in
theorem c_m_reporter {ad : AD} {ek : EK} {lh : Launch} {Dh : va_G} {r : Int32} {S' : ST}  {S : ST} {l1 : Int32} {l2 : Int32} {l3 : Int32} (h : m_reporter S l1 l2 l3 = some (r, S')) : MXi lh Dh ad ek (cM ad) yX12_reporter cX12_reporter 4 (some .boolean) 2 [.ref (ad.1 0), .int l1, .int l2, .int l3] S r S' := by
  refine mxi_of (by decide) (Nat.le_of_ble_eq_true rfl) (fun z C E => ?_)
  unfold m_reporter at h
  obtain ⟨r3, e3, h⟩ := cal0_some h
  refine x_iload_n C dX12_reporter_0 rfl 1 rfl (x_iconst C dX12_reporter_1 kc_0 (x_iconst C dX12_reporter_2 kc_3 (x_callSi C (c_m_in e3) k_X12_288 (by decide) (Nat.le_of_ble_eq_true rfl) rfl dX12_reporter_3 (x_if_eq C (tgt := 30) dX12_reporter_6 (by decide) (fun c => ?_) (fun c => ?_)))))
  · have h := ite_t h c
    exact x_iconst C dX12_reporter_30 kc_0 (x_iret E h (retB rfl) dX12_reporter_31)
  · have h := ite_f h c
    obtain ⟨r13, e13, h⟩ := cal0_some h
    refine x_iload_n C dX12_reporter_9 rfl 2 rfl (x_iconst C dX12_reporter_10 kc_1 (x_bipush C dX12_reporter_11 kb_6 (x_callSi C (c_m_in e13) k_X12_288 (by decide) (Nat.le_of_ble_eq_true rfl) rfl dX12_reporter_13 (x_if_eq C (tgt := 30) dX12_reporter_16 (by decide) (fun c => ?_) (fun c => ?_)))))
    · have h := ite_t h c
      exact x_iconst C dX12_reporter_30 kc_0 (x_iret E h (retB rfl) dX12_reporter_31)
    · have h := ite_f h c
      obtain ⟨r24, e24, h⟩ := cal0_some h
      refine x_iload_n C dX12_reporter_19 rfl 3 rfl (x_iconst C dX12_reporter_20 kc_0 (x_sipush C dX12_reporter_21 ks_255 (x_callSi C (c_m_in e24) k_X12_288 (by decide) (Nat.le_of_ble_eq_true rfl) rfl dX12_reporter_24 (x_if_ne C (tgt := 32) dX12_reporter_27 (by decide) (fun c => ?_) (fun c => ?_)))))
      · have h := ite_f h c
        obtain ⟨g38, h⟩ := G_some h
        obtain ⟨g45, h⟩ := G_some h
        exact x_aload_n C dX12_reporter_32 rfl 0 rfl (gM_X12_65 C u_5_145 dX12_reporter_33 (x_iload_n C dX12_reporter_36 rfl 1 rfl (x_iload_n C dX12_reporter_37 rfl 2 rfl (sM_40 C g38 dX12_reporter_38 (x_aload_n C dX12_reporter_39 rfl 0 rfl (gM_X12_66 C u_5_146 dX12_reporter_40 (x_iload_n C dX12_reporter_43 rfl 1 rfl (x_iload_n C dX12_reporter_44 rfl 3 rfl (sM_41 C g45 dX12_reporter_45 (x_iconst C dX12_reporter_46 kc_1 (x_iret E h (retB rfl) dX12_reporter_47)))))))))))
      · have h := ite_t h c
        exact x_iconst C dX12_reporter_30 kc_0 (x_iret E h (retB rfl) dX12_reporter_31)
set_option maxHeartbeats 4000000 in
theorem w_m_roster_j241 {z : ZT} {ad : AD} {ek : EK} {lh : Launch} {Dh : va_G} {r : Int32} {S' : ST} (C : CX z ad ek cX12_roster RX12 lh Dh 2 8) (E : EI z (cM ad) cX12_roster (some .int) r S') {S : ST} {l3 : Int32} {l4 : Int32} (h : m_roster_j241 S l3 l4 = some (r, S')) : XW z (cM ad) 241 [(3, .int l3), (4, .int l4)] [] S := by
  unfold m_roster_j241 at h
  refine x_iload C dX12_roster_241 1 rfl (x_iconst C dX12_roster_243 kc_m1 (x_icmp_ne C (tgt := 253) dX12_roster_244 (by decide) (fun c => ?_) (fun c => ?_)))
  · have h := ite_f h c
    exact x_iload C dX12_roster_253 1 rfl (x_iret E h retI dX12_roster_255)
  · have h := ite_t h c
    exact x_iconst C dX12_roster_247 kc_m1 (x_iload_n C dX12_roster_248 rfl 0 rfl (x_isub C dX12_roster_249 (x_goto C (tgt := 255) dX12_roster_250 (by decide) (x_iret E h retI dX12_roster_255))))
set_option maxHeartbeats 4000000 in
theorem w_m_roster_j238 {z : ZT} {ad : AD} {ek : EK} {lh : Launch} {Dh : va_G} {r : Int32} {S' : ST} (C : CX z ad ek cX12_roster RX12 lh Dh 2 8) (E : EI z (cM ad) cX12_roster (some .int) r S') {Kb : ST → Int32 → Int32 → Int32 → Int32 → Int32 → Option (Int32 × ST)} (hKb : ∀ (S : ST) (l1 : Int32) (l2 : Int32) (l3 : Int32) (l4 : Int32) (l5 : Int32) , Kb S l1 l2 l3 l4 l5 = some (r, S') → XW z (cM ad) 42 [(0, .ref (ad.1 0)), (1, .int l1), (2, .int l2), (3, .int l3), (4, .int l4), (5, .int l5)] [] S) {K241 : ST → Int32 → Int32 → Option (Int32 × ST)} (hK241 : ∀ (S : ST) (l3 : Int32) (l4 : Int32) , K241 S l3 l4 = some (r, S') → XW z (cM ad) 241 [(3, .int l3), (4, .int l4)] [] S) {S : ST} {l1 : Int32} {l2 : Int32} {l3 : Int32} {l4 : Int32} {l5 : Int32} (h : m_roster_j238 Kb K241 S l1 l2 l3 l4 l5 = some (r, S')) : XW z (cM ad) 238 [(0, .ref (ad.1 0)), (1, .int l1), (2, .int l2), (3, .int l3), (4, .int l4), (5, .int l5)] [] S := by
  unfold m_roster_j238 at h
  exact x_goto C (tgt := 42) dX12_roster_238 (by decide) (hKb _ _ _ _ _ _ h)
set_option maxHeartbeats 4000000 in
theorem w_m_roster_h212 {z : ZT} {ad : AD} {ek : EK} {lh : Launch} {Dh : va_G} {r : Int32} {S' : ST} (C : CX z ad ek cX12_roster RX12 lh Dh 2 8) (E : EI z (cM ad) cX12_roster (some .int) r S') {K238 : ST → Int32 → Int32 → Int32 → Int32 → Int32 → Option (Int32 × ST)} (hK238 : ∀ (S : ST) (l1 : Int32) (l2 : Int32) (l3 : Int32) (l4 : Int32) (l5 : Int32) , K238 S l1 l2 l3 l4 l5 = some (r, S') → XW z (cM ad) 238 [(0, .ref (ad.1 0)), (1, .int l1), (2, .int l2), (3, .int l3), (4, .int l4), (5, .int l5)] [] S) : ∀ (n : Nat) (S : ST) (l1 : Int32) (l2 : Int32) (l3 : Int32) (l4 : Int32) (l5 : Int32) (l7 : Int32), m_roster_h212 K238 n S l1 l2 l3 l4 l5 l7 = some (r, S') → XW z (cM ad) 212 [(0, .ref (ad.1 0)), (1, .int l1), (2, .int l2), (3, .int l3), (4, .int l4), (5, .int l5), (7, .int l7)] [] S := by
  intro n
  induction n with
  | zero => intro S l1 l2 l3 l4 l5 l7 h; cases h
  | succ n ih =>
    intro S l1 l2 l3 l4 l5 l7 h
    have hKb := ih
    refine x_iload C dX12_roster_212 6 rfl (x_iload_n C dX12_roster_214 rfl 1 rfl (x_icmp_ge C (tgt := 238) dX12_roster_215 (by decide) (fun c => ?_) (fun c => ?_)))
    · have h := ite_t h c
      exact x_perm [0, 1, 2, 3, 4, 5] rfl (hK238 _ _ _ _ _ _ h)
    · have h := ite_f h c
      obtain ⟨g230, h⟩ := G_some h
      obtain ⟨g231, h⟩ := G_some h
      exact x_aload_n C dX12_roster_218 rfl 0 rfl (gM_X12_68 C u_5_148 dX12_roster_219 (x_iload C dX12_roster_222 6 rfl (x_aload_n C dX12_roster_224 rfl 0 rfl (gM_X12_67 C u_5_147 dX12_roster_225 (x_iload C dX12_roster_228 6 rfl (aM_42 C g230 dX12_roster_230 (sM_43 C g231 dX12_roster_231 (x_iinc C dX12_roster_232 6 rfl ki_1 (by decide) rfl (x_goto C (tgt := 212) dX12_roster_235 (by decide) (x_perm [1, 2, 3, 4, 5, 6, 0] rfl (hKb _ _ _ _ _ _ _ h)))))))))))
set_option maxHeartbeats 4000000 in
theorem w_m_roster_j200 {z : ZT} {ad : AD} {ek : EK} {lh : Launch} {Dh : va_G} {r : Int32} {S' : ST} (C : CX z ad ek cX12_roster RX12 lh Dh 2 8) (E : EI z (cM ad) cX12_roster (some .int) r S') {Kb : ST → Int32 → Int32 → Int32 → Int32 → Int32 → Option (Int32 × ST)} (hKb : ∀ (S : ST) (l1 : Int32) (l2 : Int32) (l3 : Int32) (l4 : Int32) (l5 : Int32) , Kb S l1 l2 l3 l4 l5 = some (r, S') → XW z (cM ad) 42 [(0, .ref (ad.1 0)), (1, .int l1), (2, .int l2), (3, .int l3), (4, .int l4), (5, .int l5)] [] S) {K241 : ST → Int32 → Int32 → Option (Int32 × ST)} (hK241 : ∀ (S : ST) (l3 : Int32) (l4 : Int32) , K241 S l3 l4 = some (r, S') → XW z (cM ad) 241 [(3, .int l3), (4, .int l4)] [] S) {S : ST} {l1 : Int32} {l2 : Int32} {l3 : Int32} {l5 : Int32} {l6 : Int32} (h : m_roster_j200 Kb K241 S l1 l2 l3 l5 l6 = some (r, S')) : XW z (cM ad) 200 [(0, .ref (ad.1 0)), (1, .int l1), (2, .int l2), (3, .int l3), (5, .int l5), (6, .int l6)] [] S := by
  unfold m_roster_j200 at h
  exact x_iload C dX12_roster_200 5 rfl (x_istore C dX12_roster_202 (by decide) rfl (x_aload_n C dX12_roster_204 rfl 1 rfl (x_iload_n C dX12_roster_205 rfl 2 rfl (pM_X12_69 C u_5_149 dX12_roster_206 (x_iconst C dX12_roster_209 kc_0 (x_istore C dX12_roster_210 (by decide) rfl (x_perm [2, 3, 4, 5, 1, 6, 0] rfl (w_m_roster_h212 C E (fun _ _ _ _ _ _ h => w_m_roster_j238 C E hKb hK241 h) FU _ _ _ _ _ _ _ h))))))))
set_option maxHeartbeats 4000000 in
theorem w_m_roster_j184 {z : ZT} {ad : AD} {ek : EK} {lh : Launch} {Dh : va_G} {r : Int32} {S' : ST} (C : CX z ad ek cX12_roster RX12 lh Dh 2 8) (E : EI z (cM ad) cX12_roster (some .int) r S') {Kb : ST → Int32 → Int32 → Int32 → Int32 → Int32 → Option (Int32 × ST)} (hKb : ∀ (S : ST) (l1 : Int32) (l2 : Int32) (l3 : Int32) (l4 : Int32) (l5 : Int32) , Kb S l1 l2 l3 l4 l5 = some (r, S') → XW z (cM ad) 42 [(0, .ref (ad.1 0)), (1, .int l1), (2, .int l2), (3, .int l3), (4, .int l4), (5, .int l5)] [] S) {K241 : ST → Int32 → Int32 → Option (Int32 × ST)} (hK241 : ∀ (S : ST) (l3 : Int32) (l4 : Int32) , K241 S l3 l4 = some (r, S') → XW z (cM ad) 241 [(3, .int l3), (4, .int l4)] [] S) {S : ST} {l1 : Int32} {l2 : Int32} {l3 : Int32} {l4 : Int32} {l5 : Int32} {l6 : Int32} (h : m_roster_j184 Kb K241 S l1 l2 l3 l4 l5 l6 = some (r, S')) : XW z (cM ad) 184 [(0, .ref (ad.1 0)), (1, .int l1), (2, .int l2), (3, .int l3), (4, .int l4), (5, .int l5), (6, .int l6)] [] S := by
  unfold m_roster_j184 at h
  refine x_iload C dX12_roster_184 4 rfl (x_iconst C dX12_roster_186 kc_m1 (x_icmp_eq C (tgt := 200) dX12_roster_187 (by decide) (fun c => ?_) (fun c => ?_)))
  · have h := ite_t h c
    exact x_perm [0, 1, 2, 3, 5, 6] rfl (w_m_roster_j200 C E hKb hK241 h)
  · have h := ite_f h c
    refine x_iload C dX12_roster_190 6 rfl (x_iload C dX12_roster_192 4 rfl (x_icmp_lt C (tgt := 200) dX12_roster_194 (by decide) (fun c => ?_) (fun c => ?_)))
    · have h := ite_t h c
      exact x_perm [0, 1, 2, 3, 5, 6] rfl (w_m_roster_j200 C E hKb hK241 h)
    · have h := ite_f h c
      exact x_goto C (tgt := 42) dX12_roster_197 (by decide) (x_perm [0, 1, 2, 3, 4, 5] rfl (hKb _ _ _ _ _ _ h))
set_option maxHeartbeats 4000000 in
theorem w_m_roster_j178 {z : ZT} {ad : AD} {ek : EK} {lh : Launch} {Dh : va_G} {r : Int32} {S' : ST} (C : CX z ad ek cX12_roster RX12 lh Dh 2 8) (E : EI z (cM ad) cX12_roster (some .int) r S') {Kb : ST → Int32 → Int32 → Int32 → Int32 → Int32 → Int32 → Int32 → Option (Int32 × ST)} (hKb : ∀ (S : ST) (l1 : Int32) (l2 : Int32) (l3 : Int32) (l4 : Int32) (l5 : Int32) (l6 : Int32) (l7 : Int32) , Kb S l1 l2 l3 l4 l5 l6 l7 = some (r, S') → XW z (cM ad) 135 [(0, .ref (ad.1 0)), (1, .int l1), (2, .int l2), (3, .int l3), (4, .int l4), (5, .int l5), (6, .int l6), (7, .int l7)] [] S) {K184 : ST → Int32 → Int32 → Int32 → Int32 → Int32 → Int32 → Option (Int32 × ST)} (hK184 : ∀ (S : ST) (l1 : Int32) (l2 : Int32) (l3 : Int32) (l4 : Int32) (l5 : Int32) (l6 : Int32) , K184 S l1 l2 l3 l4 l5 l6 = some (r, S') → XW z (cM ad) 184 [(0, .ref (ad.1 0)), (1, .int l1), (2, .int l2), (3, .int l3), (4, .int l4), (5, .int l5), (6, .int l6)] [] S) {S : ST} {l1 : Int32} {l2 : Int32} {l3 : Int32} {l4 : Int32} {l5 : Int32} {l6 : Int32} {l7 : Int32} (h : m_roster_j178 Kb K184 S l1 l2 l3 l4 l5 l6 l7 = some (r, S')) : XW z (cM ad) 178 [(0, .ref (ad.1 0)), (1, .int l1), (2, .int l2), (3, .int l3), (4, .int l4), (5, .int l5), (6, .int l6), (7, .int l7)] [] S := by
  unfold m_roster_j178 at h
  exact x_iinc C dX12_roster_178 7 rfl ki_1 (by decide) rfl (x_goto C (tgt := 135) dX12_roster_181 (by decide) (x_perm [1, 2, 3, 4, 5, 6, 7, 0] rfl (hKb _ _ _ _ _ _ _ _ h)))
set_option maxHeartbeats 4000000 in
theorem w_m_roster_h135 {z : ZT} {ad : AD} {ek : EK} {lh : Launch} {Dh : va_G} {r : Int32} {S' : ST} (C : CX z ad ek cX12_roster RX12 lh Dh 2 8) (E : EI z (cM ad) cX12_roster (some .int) r S') {K184 : ST → Int32 → Int32 → Int32 → Int32 → Int32 → Int32 → Option (Int32 × ST)} (hK184 : ∀ (S : ST) (l1 : Int32) (l2 : Int32) (l3 : Int32) (l4 : Int32) (l5 : Int32) (l6 : Int32) , K184 S l1 l2 l3 l4 l5 l6 = some (r, S') → XW z (cM ad) 184 [(0, .ref (ad.1 0)), (1, .int l1), (2, .int l2), (3, .int l3), (4, .int l4), (5, .int l5), (6, .int l6)] [] S) : ∀ (n : Nat) (S : ST) (l1 : Int32) (l2 : Int32) (l3 : Int32) (l4 : Int32) (l5 : Int32) (l6 : Int32) (l7 : Int32), m_roster_h135 K184 n S l1 l2 l3 l4 l5 l6 l7 = some (r, S') → XW z (cM ad) 135 [(0, .ref (ad.1 0)), (1, .int l1), (2, .int l2), (3, .int l3), (4, .int l4), (5, .int l5), (6, .int l6), (7, .int l7)] [] S := by
  intro n
  induction n with
  | zero => intro S l1 l2 l3 l4 l5 l6 l7 h; cases h
  | succ n ih =>
    intro S l1 l2 l3 l4 l5 l6 l7 h
    have hKb := ih
    refine x_iload C dX12_roster_135 7 rfl (x_iload_n C dX12_roster_137 rfl 1 rfl (x_icmp_ge C (tgt := 184) dX12_roster_138 (by decide) (fun c => ?_) (fun c => ?_)))
    · have h := ite_t h c
      exact x_perm [0, 1, 2, 3, 4, 5, 6] rfl (hK184 _ _ _ _ _ _ _ h)
    · have h := ite_f h c
      obtain ⟨g153, h⟩ := G_some h
      obtain ⟨g154, h⟩ := G_some h
      refine x_iload C dX12_roster_141 7 rfl (x_aload_n C dX12_roster_143 rfl 0 rfl (gM_X12_65 C u_5_145 dX12_roster_144 (x_aload_n C dX12_roster_147 rfl 0 rfl (gM_X12_67 C u_5_147 dX12_roster_148 (x_iload C dX12_roster_151 7 rfl (aM_42 C g153 dX12_roster_153 (aM_40 C g154 dX12_roster_154 (x_iadd C dX12_roster_155 (x_iload C dX12_roster_156 6 rfl (x_icmp_le C (tgt := 178) dX12_roster_158 (by decide) (fun c => ?_) (fun c => ?_)))))))))))
      · have h := ite_t h c
        exact w_m_roster_j178 C E hKb hK184 h
      · have h := ite_f h c
        obtain ⟨g173, h⟩ := G_some h
        obtain ⟨g174, h⟩ := G_some h
        exact x_iload C dX12_roster_161 7 rfl (x_aload_n C dX12_roster_163 rfl 0 rfl (gM_X12_65 C u_5_145 dX12_roster_164 (x_aload_n C dX12_roster_167 rfl 0 rfl (gM_X12_67 C u_5_147 dX12_roster_168 (x_iload C dX12_roster_171 7 rfl (aM_42 C g173 dX12_roster_173 (aM_40 C g174 dX12_roster_174 (x_iadd C dX12_roster_175 (x_istore C dX12_roster_176 (by decide) rfl (x_perm [1, 2, 3, 4, 5, 6, 0, 7] rfl (w_m_roster_j178 C E hKb hK184 h)))))))))))
set_option maxHeartbeats 4000000 in
theorem w_m_roster_j107 {z : ZT} {ad : AD} {ek : EK} {lh : Launch} {Dh : va_G} {r : Int32} {S' : ST} (C : CX z ad ek cX12_roster RX12 lh Dh 2 8) (E : EI z (cM ad) cX12_roster (some .int) r S') {Kb : ST → Int32 → Int32 → Int32 → Int32 → Int32 → Option (Int32 × ST)} (hKb : ∀ (S : ST) (l1 : Int32) (l2 : Int32) (l3 : Int32) (l4 : Int32) (l5 : Int32) , Kb S l1 l2 l3 l4 l5 = some (r, S') → XW z (cM ad) 42 [(0, .ref (ad.1 0)), (1, .int l1), (2, .int l2), (3, .int l3), (4, .int l4), (5, .int l5)] [] S) {K241 : ST → Int32 → Int32 → Option (Int32 × ST)} (hK241 : ∀ (S : ST) (l3 : Int32) (l4 : Int32) , K241 S l3 l4 = some (r, S') → XW z (cM ad) 241 [(3, .int l3), (4, .int l4)] [] S) {S : ST} {l1 : Int32} {l2 : Int32} {l3 : Int32} {l4 : Int32} {l5 : Int32} (h : m_roster_j107 Kb K241 S l1 l2 l3 l4 l5 = some (r, S')) : XW z (cM ad) 107 [(0, .ref (ad.1 0)), (1, .int l1), (2, .int l2), (3, .int l3), (4, .int l4), (5, .int l5)] [] S := by
  unfold m_roster_j107 at h
  refine x_iload C dX12_roster_107 5 rfl (x_iconst C dX12_roster_109 kc_1 (x_iadd C dX12_roster_110 (x_iload_n C dX12_roster_111 rfl 1 rfl (x_icmp_ge C (tgt := 129) dX12_roster_112 (by decide) (fun c => ?_) (fun c => ?_)))))
  · have h := ite_t h c
    exact x_iconst C dX12_roster_129 kc_0 (x_istore C dX12_roster_130 (by decide) rfl (x_iconst C dX12_roster_132 kc_0 (x_istore C dX12_roster_133 (by decide) rfl (x_perm [2, 3, 4, 5, 6, 7, 1, 0] rfl (w_m_roster_h135 C E (fun _ _ _ _ _ _ _ h => w_m_roster_j184 C E hKb hK241 h) FU _ _ _ _ _ _ _ _ h)))))
  · have h := ite_f h c
    obtain ⟨g125, h⟩ := G_some h
    exact x_iinc C dX12_roster_115 5 rfl ki_1 (by decide) rfl (x_aload_n C dX12_roster_118 rfl 1 rfl (gM_X12_67 C u_5_147 dX12_roster_119 (x_iload C dX12_roster_122 0 rfl (x_iconst C dX12_roster_124 kc_m1 (sM_42 C g125 dX12_roster_125 (x_goto C (tgt := 42) dX12_roster_126 (by decide) (x_perm [1, 2, 3, 4, 5, 0] rfl (hKb _ _ _ _ _ _ h))))))))
set_option maxHeartbeats 4000000 in
theorem w_m_roster_h42 {z : ZT} {ad : AD} {ek : EK} {lh : Launch} {Dh : va_G} {r : Int32} {S' : ST} (C : CX z ad ek cX12_roster RX12 lh Dh 2 8) (E : EI z (cM ad) cX12_roster (some .int) r S') {K241 : ST → Int32 → Int32 → Option (Int32 × ST)} (hK241 : ∀ (S : ST) (l3 : Int32) (l4 : Int32) , K241 S l3 l4 = some (r, S') → XW z (cM ad) 241 [(3, .int l3), (4, .int l4)] [] S) : ∀ (n : Nat) (S : ST) (l1 : Int32) (l2 : Int32) (l3 : Int32) (l4 : Int32) (l5 : Int32), m_roster_h42 K241 n S l1 l2 l3 l4 l5 = some (r, S') → XW z (cM ad) 42 [(0, .ref (ad.1 0)), (1, .int l1), (2, .int l2), (3, .int l3), (4, .int l4), (5, .int l5)] [] S := by
  intro n
  induction n with
  | zero => intro S l1 l2 l3 l4 l5 h; cases h
  | succ n ih =>
    intro S l1 l2 l3 l4 l5 h
    have hKb := ih
    refine x_iload C dX12_roster_42 5 rfl (x_if_lt C (tgt := 241) dX12_roster_44 (by decide) (fun c => ?_) (fun c => ?_))
    · have h := ite_t h c
      exact x_perm [3, 4] rfl (hK241 _ _ _ h)
    · have h := ite_f h c
      obtain ⟨g54, h⟩ := G_some h
      obtain ⟨g57, h⟩ := G_some h
      obtain ⟨g64, h⟩ := G_some h
      refine x_aload_n C dX12_roster_47 rfl 0 rfl (gM_X12_67 C u_5_147 dX12_roster_48 (x_iload C dX12_roster_51 5 rfl (x_dup2 C dX12_roster_53 rfl rfl (aM_42 C g54 dX12_roster_54 (x_iconst C dX12_roster_55 kc_1 (x_iadd C dX12_roster_56 (sM_42 C g57 dX12_roster_57 (x_aload_n C dX12_roster_58 rfl 0 rfl (gM_X12_67 C u_5_147 dX12_roster_59 (x_iload C dX12_roster_62 5 rfl (aM_42 C g64 dX12_roster_64 (x_iload_n C dX12_roster_65 rfl 2 rfl (x_icmp_ne C (tgt := 75) dX12_roster_66 (by decide) (fun c => ?_) (fun c => ?_))))))))))))))
      · have h := ite_f h c
        obtain ⟨g84, h⟩ := G_some h
        obtain ⟨r85, S85, e85, h⟩ := cal_some h
        refine x_aload_n C dX12_roster_75 rfl 0 rfl (x_iload C dX12_roster_76 5 rfl (x_aload_n C dX12_roster_78 rfl 0 rfl (gM_X12_67 C u_5_147 dX12_roster_79 (x_iload C dX12_roster_82 5 rfl (aM_42 C g84 dX12_roster_84 (x_callVi C (c_m_mayTake e85) k_X12_406 (ci := 12) (q0 := 0) rfl rfl (by decide) (Nat.le_of_ble_eq_true rfl) rfl dX12_roster_85 (x_if_ne C (tgt := 94) dX12_roster_88 (by decide) (fun c => ?_) (fun c => ?_))))))))
        · have h := ite_f h c
          refine x_iload C dX12_roster_94 5 rfl (x_iconst C dX12_roster_96 kc_1 (x_iadd C dX12_roster_97 (x_iload_n C dX12_roster_98 rfl 3 rfl (x_icmp_le C (tgt := 107) dX12_roster_99 (by decide) (fun c => ?_) (fun c => ?_)))))
          · have h := ite_t h c
            exact w_m_roster_j107 C E hKb hK241 h
          · have h := ite_f h c
            exact x_iload C dX12_roster_102 5 rfl (x_iconst C dX12_roster_104 kc_1 (x_iadd C dX12_roster_105 (x_istore_n C dX12_roster_106 rfl (by decide) rfl (x_perm [1, 2, 3, 0, 4, 5] rfl (w_m_roster_j107 C E hKb hK241 h)))))
        · have h := ite_t h c
          exact x_goto C (tgt := 42) dX12_roster_91 (by decide) (hKb _ _ _ _ _ _ h)
      · have h := ite_t h c
        exact x_iinc C dX12_roster_69 5 rfl ki_m1 (by decide) rfl (x_goto C (tgt := 42) dX12_roster_72 (by decide) (x_perm [1, 2, 3, 4, 5, 0] rfl (hKb _ _ _ _ _ _ h)))
set_option maxHeartbeats 4000000 in
theorem c_m_roster {ad : AD} {ek : EK} {lh : Launch} {Dh : va_G} {r : Int32} {S' : ST}  {S : ST} {l1 : Int32} {l2 : Int32} (h : m_roster S l1 l2 = some (r, S')) : MXi lh Dh ad ek (cM ad) yX12_roster cX12_roster 8 (some .int) 2 [.ref (ad.1 0), .int l1, .int l2] S r S' := by
  refine mxi_of (by decide) (Nat.le_of_ble_eq_true rfl) (fun z C E => ?_)
  unfold m_roster at h
  obtain ⟨r4, e4, h⟩ := cal0_some h
  refine x_iload_n C dX12_roster_0 rfl 1 rfl (x_iconst C dX12_roster_1 kc_1 (x_bipush C dX12_roster_2 kb_8 (x_callSi C (c_m_in e4) k_X12_288 (by decide) (Nat.le_of_ble_eq_true rfl) rfl dX12_roster_4 (x_if_eq C (tgt := 19) dX12_roster_7 (by decide) (fun c => ?_) (fun c => ?_)))))
  · have h := ite_t h c
    exact x_bipush C dX12_roster_19 kb_m100 (x_iret E h retI dX12_roster_21)
  · have h := ite_f h c
    obtain ⟨r13, e13, h⟩ := cal0_some h
    refine x_iload_n C dX12_roster_10 rfl 2 rfl (x_iconst C dX12_roster_11 kc_1 (x_iconst C dX12_roster_12 kc_4 (x_callSi C (c_m_in e13) k_X12_288 (by decide) (Nat.le_of_ble_eq_true rfl) rfl dX12_roster_13 (x_if_ne C (tgt := 22) dX12_roster_16 (by decide) (fun c => ?_) (fun c => ?_)))))
    · have h := ite_f h c
      obtain ⟨g41, h⟩ := G_some h
      exact x_aload_n C dX12_roster_22 rfl 0 rfl (x_iconst C dX12_roster_23 kc_0 (pM_X12_69 C u_5_149 dX12_roster_24 (x_iconst C dX12_roster_27 kc_0 (x_istore_n C dX12_roster_28 rfl (by decide) rfl (x_iconst C dX12_roster_29 kc_m1 (x_istore C dX12_roster_30 (by decide) rfl (x_iconst C dX12_roster_32 kc_0 (x_istore C dX12_roster_33 (by decide) rfl (x_aload_n C dX12_roster_35 rfl 3 rfl (gM_X12_67 C u_5_147 dX12_roster_36 (x_iconst C dX12_roster_39 kc_0 (x_iconst C dX12_roster_40 kc_m1 (sM_42 C g41 dX12_roster_41 (x_perm [3, 4, 5, 2, 1, 0] rfl (w_m_roster_h42 C E (fun _ _ _ h => w_m_roster_j241 C E  h) FU _ _ _ _ _ _ h)))))))))))))))
    · have h := ite_t h c
      exact x_bipush C dX12_roster_19 kb_m100 (x_iret E h retI dX12_roster_21)
set_option maxHeartbeats 4000000 in
theorem w_m_sign_j161 {z : ZT} {ad : AD} {ek : EK} {lh : Launch} {Dh : va_G} {r : Int32} {S' : ST} (C : CX z ad ek cX12_sign RX12 lh Dh 2 6) (E : EI z (cM ad) cX12_sign (some .int) r S') {S : ST} {l1 : Int32} {l4 : Int32} {l5 : Int32} (h : m_sign_j161 S l1 l4 l5 = some (r, S')) : XW z (cM ad) 161 [(0, .ref (ad.1 0)), (1, .int l1), (4, .int l4), (5, .int l5)] [] S := by
  unfold m_sign_j161 at h
  obtain ⟨S167, e167, h⟩ := calV_some h
  refine x_aload_n C dX12_sign_161 rfl 0 rfl (x_iload C dX12_sign_162 3 rfl (x_iload_n C dX12_sign_164 rfl 1 rfl (x_iconst C dX12_sign_165 kc_0 (x_lconst C dX12_sign_166 (v := 0) rfl (x_callVv C (c_m_token e167) k_X12_182 (ci := 12) (q0 := 0) rfl rfl (by decide) (Nat.le_of_ble_eq_true rfl) rfl dX12_sign_167 (x_iload C dX12_sign_170 2 rfl (x_if_le C (tgt := 179) dX12_sign_172 (by decide) (fun c => ?_) (fun c => ?_))))))))
  · have h := ite_t h c
    exact x_iconst C dX12_sign_179 kc_1 (x_iret E h retI dX12_sign_180)
  · have h := ite_f h c
    exact x_iconst C dX12_sign_175 kc_2 (x_goto C (tgt := 180) dX12_sign_176 (by decide) (x_iret E h retI dX12_sign_180))
set_option maxHeartbeats 4000000 in
theorem w_m_sign_j44 {z : ZT} {ad : AD} {ek : EK} {lh : Launch} {Dh : va_G} {r : Int32} {S' : ST} (C : CX z ad ek cX12_sign RX12 lh Dh 2 6) (E : EI z (cM ad) cX12_sign (some .int) r S') {S : ST} {l1 : Int32} {l2 : Int32} {s0 : Int32} (h : m_sign_j44 S l1 l2 s0 = some (r, S')) : XW z (cM ad) 44 [(0, .ref (ad.1 0)), (1, .int l1), (2, .int l2)] [.int s0] S := by
  unfold m_sign_j44 at h
  refine x_istore C dX12_sign_44 (by decide) rfl (x_iconst C dX12_sign_46 kc_3 (x_istore C dX12_sign_47 (by decide) rfl (x_iload C dX12_sign_49 1 rfl (x_if_le C (tgt := 61) dX12_sign_51 (by decide) (fun c => ?_) (fun c => ?_)))))
  · have h := ite_t h c
    refine x_iload_n C dX12_sign_61 rfl 4 rfl (x_bipush C dX12_sign_62 kb_59 (x_icmp_ne C (tgt := 73) dX12_sign_64 (by decide) (fun c => ?_) (fun c => ?_)))
    · have h := ite_f h c
      refine x_iload_n C dX12_sign_73 rfl 4 rfl (x_bipush C dX12_sign_74 kb_40 (x_icmp_ne C (tgt := 86) dX12_sign_76 (by decide) (fun c => ?_) (fun c => ?_)))
      · have h := ite_f h c
        refine x_iload_n C dX12_sign_86 rfl 4 rfl (x_bipush C dX12_sign_87 kb_41 (x_icmp_ne C (tgt := 99) dX12_sign_89 (by decide) (fun c => ?_) (fun c => ?_)))
        · have h := ite_f h c
          refine x_iload_n C dX12_sign_99 rfl 4 rfl (x_bipush C dX12_sign_100 kb_43 (x_icmp_ne C (tgt := 112) dX12_sign_102 (by decide) (fun c => ?_) (fun c => ?_)))
          · have h := ite_f h c
            refine x_iload_n C dX12_sign_112 rfl 4 rfl (x_bipush C dX12_sign_113 kb_45 (x_icmp_ne C (tgt := 125) dX12_sign_115 (by decide) (fun c => ?_) (fun c => ?_)))
            · have h := ite_f h c
              refine x_iload_n C dX12_sign_125 rfl 4 rfl (x_bipush C dX12_sign_126 kb_42 (x_icmp_ne C (tgt := 138) dX12_sign_128 (by decide) (fun c => ?_) (fun c => ?_)))
              · have h := ite_f h c
                refine x_iload_n C dX12_sign_138 rfl 4 rfl (x_bipush C dX12_sign_139 kb_60 (x_icmp_ne C (tgt := 151) dX12_sign_141 (by decide) (fun c => ?_) (fun c => ?_)))
                · have h := ite_f h c
                  refine x_iload_n C dX12_sign_151 rfl 4 rfl (x_bipush C dX12_sign_152 kb_47 (x_icmp_ne C (tgt := 161) dX12_sign_154 (by decide) (fun c => ?_) (fun c => ?_)))
                  · have h := ite_f h c
                    exact x_perm [2, 3, 1, 0] rfl (w_m_sign_j161 C E h)
                  · have h := ite_t h c
                    exact x_bipush C dX12_sign_157 kb_15 (x_istore C dX12_sign_159 (by decide) rfl (x_perm [2, 3, 1, 0] rfl (w_m_sign_j161 C E h)))
                · have h := ite_t h c
                  exact x_bipush C dX12_sign_144 kb_13 (x_istore C dX12_sign_146 (by decide) rfl (x_goto C (tgt := 161) dX12_sign_148 (by decide) (x_perm [2, 3, 1, 0] rfl (w_m_sign_j161 C E h))))
              · have h := ite_t h c
                exact x_bipush C dX12_sign_131 kb_10 (x_istore C dX12_sign_133 (by decide) rfl (x_goto C (tgt := 161) dX12_sign_135 (by decide) (x_perm [2, 3, 1, 0] rfl (w_m_sign_j161 C E h))))
            · have h := ite_t h c
              exact x_bipush C dX12_sign_118 kb_9 (x_istore C dX12_sign_120 (by decide) rfl (x_goto C (tgt := 161) dX12_sign_122 (by decide) (x_perm [2, 3, 1, 0] rfl (w_m_sign_j161 C E h))))
          · have h := ite_t h c
            exact x_bipush C dX12_sign_105 kb_8 (x_istore C dX12_sign_107 (by decide) rfl (x_goto C (tgt := 161) dX12_sign_109 (by decide) (x_perm [2, 3, 1, 0] rfl (w_m_sign_j161 C E h))))
        · have h := ite_t h c
          exact x_bipush C dX12_sign_92 kb_7 (x_istore C dX12_sign_94 (by decide) rfl (x_goto C (tgt := 161) dX12_sign_96 (by decide) (x_perm [2, 3, 1, 0] rfl (w_m_sign_j161 C E h))))
      · have h := ite_t h c
        exact x_bipush C dX12_sign_79 kb_6 (x_istore C dX12_sign_81 (by decide) rfl (x_goto C (tgt := 161) dX12_sign_83 (by decide) (x_perm [2, 3, 1, 0] rfl (w_m_sign_j161 C E h))))
    · have h := ite_t h c
      exact x_iconst C dX12_sign_67 kc_4 (x_istore C dX12_sign_68 (by decide) rfl (x_goto C (tgt := 161) dX12_sign_70 (by decide) (x_perm [2, 3, 1, 0] rfl (w_m_sign_j161 C E h))))
  · have h := ite_f h c
    exact x_iload C dX12_sign_54 1 rfl (x_istore C dX12_sign_56 (by decide) rfl (x_goto C (tgt := 161) dX12_sign_58 (by decide) (x_perm [2, 3, 1, 0] rfl (w_m_sign_j161 C E h))))
set_option maxHeartbeats 4000000 in
theorem c_m_sign {ad : AD} {ek : EK} {lh : Launch} {Dh : va_G} {r : Int32} {S' : ST}  {S : ST} {l1 : Int32} {l2 : Int32} {l3 : Int32} (h : m_sign S l1 l2 l3 = some (r, S')) : MXi lh Dh ad ek (cM ad) yX12_sign cX12_sign 6 (some .int) 2 [.ref (ad.1 0), .int l1, .int l2, .int l3] S r S' := by
  refine mxi_of (by decide) (Nat.le_of_ble_eq_true rfl) (fun z C E => ?_)
  unfold m_sign at h
  refine x_iload_n C dX12_sign_0 rfl 3 rfl (x_bipush C dX12_sign_1 kb_61 (x_icmp_eq C (tgt := 10) dX12_sign_3 (by decide) (fun c => ?_) (fun c => ?_)))
  · have h := ite_t h c
    refine x_iload_n C dX12_sign_10 rfl 2 rfl (x_bipush C dX12_sign_11 kb_61 (x_icmp_ne C (tgt := 21) dX12_sign_13 (by decide) (fun c => ?_) (fun c => ?_)))
    · have h := ite_f h c
      refine x_iload_n C dX12_sign_21 rfl 2 rfl (x_bipush C dX12_sign_22 kb_33 (x_icmp_ne C (tgt := 32) dX12_sign_24 (by decide) (fun c => ?_) (fun c => ?_)))
      · have h := ite_f h c
        refine x_iload_n C dX12_sign_32 rfl 2 rfl (x_bipush C dX12_sign_33 kb_60 (x_icmp_ne C (tgt := 43) dX12_sign_35 (by decide) (fun c => ?_) (fun c => ?_)))
        · have h := ite_f h c
          exact x_iconst C dX12_sign_43 kc_0 (x_perm [0, 1, 2] rfl (w_m_sign_j44 C E h))
        · have h := ite_t h c
          exact x_bipush C dX12_sign_38 kb_14 (x_goto C (tgt := 44) dX12_sign_40 (by decide) (x_perm [0, 1, 2] rfl (w_m_sign_j44 C E h)))
      · have h := ite_t h c
        exact x_bipush C dX12_sign_27 kb_12 (x_goto C (tgt := 44) dX12_sign_29 (by decide) (x_perm [0, 1, 2] rfl (w_m_sign_j44 C E h)))
    · have h := ite_t h c
      exact x_bipush C dX12_sign_16 kb_11 (x_goto C (tgt := 44) dX12_sign_18 (by decide) (x_perm [0, 1, 2] rfl (w_m_sign_j44 C E h)))
  · have h := ite_f h c
    exact x_iconst C dX12_sign_6 kc_0 (x_goto C (tgt := 44) dX12_sign_7 (by decide) (x_perm [0, 1, 2] rfl (w_m_sign_j44 C E h)))
set_option maxHeartbeats 4000000 in
theorem w_m_sumOf_j42 {z : ZT} {ad : AD} {ek : EK} {lh : Launch} {Dh : va_G} {r : Int32} {S' : ST} (C : CX z ad ek cX12_sumOf RX12 lh Dh 2 6) (E : EI z (cM ad) cX12_sumOf (some .int) r S') {Kb : ST → Int32 → Int32 → Int32 → Int32 → Int32 → Option (Int32 × ST)} (hKb : ∀ (S : ST) (l1 : Int32) (l2 : Int32) (l3 : Int32) (l4 : Int32) (l5 : Int32) , Kb S l1 l2 l3 l4 l5 = some (r, S') → XW z (cM ad) 6 [(0, .ref (ad.1 0)), (1, .int l1), (2, .int l2), (3, .int l3), (4, .int l4), (5, .int l5)] [] S) {S : ST} {l1 : Int32} {l2 : Int32} {l3 : Int32} {l4 : Int32} {l5 : Int32} (h : m_sumOf_j42 Kb S l1 l2 l3 l4 l5 = some (r, S')) : XW z (cM ad) 42 [(0, .ref (ad.1 0)), (1, .int l1), (2, .int l2), (3, .int l3), (4, .int l4), (5, .int l5)] [] S := by
  unfold m_sumOf_j42 at h
  exact x_iinc C dX12_sumOf_42 5 rfl ki_1 (by decide) rfl (x_goto C (tgt := 6) dX12_sumOf_45 (by decide) (x_perm [1, 2, 3, 4, 5, 0] rfl (hKb _ _ _ _ _ _ h)))
set_option maxHeartbeats 4000000 in
theorem w_m_sumOf_h6 {z : ZT} {ad : AD} {ek : EK} {lh : Launch} {Dh : va_G} {r : Int32} {S' : ST} (C : CX z ad ek cX12_sumOf RX12 lh Dh 2 6) (E : EI z (cM ad) cX12_sumOf (some .int) r S') : ∀ (n : Nat) (S : ST) (l1 : Int32) (l2 : Int32) (l3 : Int32) (l4 : Int32) (l5 : Int32), m_sumOf_h6 n S l1 l2 l3 l4 l5 = some (r, S') → XW z (cM ad) 6 [(0, .ref (ad.1 0)), (1, .int l1), (2, .int l2), (3, .int l3), (4, .int l4), (5, .int l5)] [] S := by
  intro n
  induction n with
  | zero => intro S l1 l2 l3 l4 l5 h; cases h
  | succ n ih =>
    intro S l1 l2 l3 l4 l5 h
    have hKb := ih
    refine x_iload C dX12_sumOf_6 5 rfl (x_bipush C dX12_sumOf_8 kb_8 (x_icmp_ge C (tgt := 48) dX12_sumOf_10 (by decide) (fun c => ?_) (fun c => ?_)))
    · have h := ite_t h c
      exact (by
        exact x_iload C dX12_sumOf_48 4 rfl (x_iret E h retI dX12_sumOf_50))
    · have h := ite_f h c
      obtain ⟨r19, S19, e19, h⟩ := cal_some h
      refine x_aload_n C dX12_sumOf_13 rfl 0 rfl (x_iload_n C dX12_sumOf_14 rfl 1 rfl (x_iload C dX12_sumOf_15 5 rfl (x_iload_n C dX12_sumOf_17 rfl 2 rfl (x_iload_n C dX12_sumOf_18 rfl 3 rfl (x_callVi C (c_m_has e19) k_X12_396 (ci := 12) (q0 := 0) rfl rfl (by decide) (Nat.le_of_ble_eq_true rfl) rfl dX12_sumOf_19 (x_if_eq C (tgt := 42) dX12_sumOf_22 (by decide) (fun c => ?_) (fun c => ?_)))))))
      · have h := ite_t h c
        exact w_m_sumOf_j42 C E hKb h
      · have h := ite_f h c
        obtain ⟨r33, S33, e33, h⟩ := cal_some h
        refine x_aload_n C dX12_sumOf_25 rfl 0 rfl (x_iload_n C dX12_sumOf_26 rfl 1 rfl (x_iload C dX12_sumOf_27 5 rfl (x_iconst C dX12_sumOf_29 kc_1 (x_iload_n C dX12_sumOf_30 rfl 2 rfl (x_isub C dX12_sumOf_31 (x_iload_n C dX12_sumOf_32 rfl 3 rfl (x_callVi C (c_m_has e33) k_X12_396 (ci := 12) (q0 := 0) rfl rfl (by decide) (Nat.le_of_ble_eq_true rfl) rfl dX12_sumOf_33 (x_if_ne C (tgt := 42) dX12_sumOf_36 (by decide) (fun c => ?_) (fun c => ?_)))))))))
        · have h := ite_f h c
          exact w_m_sumOf_j42 C E hKb h
        · have h := ite_t h c
          exact x_iinc C dX12_sumOf_39 4 rfl ki_1 (by decide) rfl (x_perm [1, 2, 3, 4, 0, 5] rfl (w_m_sumOf_j42 C E hKb h))
set_option maxHeartbeats 4000000 in
theorem c_m_sumOf {ad : AD} {ek : EK} {lh : Launch} {Dh : va_G} {r : Int32} {S' : ST}  {S : ST} {l1 : Int32} {l2 : Int32} {l3 : Int32} (h : m_sumOf S l1 l2 l3 = some (r, S')) : MXi lh Dh ad ek (cM ad) yX12_sumOf cX12_sumOf 6 (some .int) 2 [.ref (ad.1 0), .int l1, .int l2, .int l3] S r S' := by
  refine mxi_of (by decide) (Nat.le_of_ble_eq_true rfl) (fun z C E => ?_)
  unfold m_sumOf at h
  exact x_iconst C dX12_sumOf_0 kc_0 (x_istore C dX12_sumOf_1 (by decide) rfl (x_iconst C dX12_sumOf_3 kc_0 (x_istore C dX12_sumOf_4 (by decide) rfl (x_perm [2, 3, 4, 5, 1, 0] rfl (w_m_sumOf_h6 C E FU _ _ _ _ _ _ h)))))
set_option maxHeartbeats 4000000 in
theorem w_m_take_j31 {z : ZT} {ad : AD} {ek : EK} {lh : Launch} {Dh : va_G} {r : Int32} {S' : ST} (C : CX z ad ek cX12_take RX12 lh Dh 2 3) (E : EI z (cM ad) cX12_take (some .int) r S') {S : ST} {l1 : Int32} {l2 : Int32} {s0 : Int32} {s1 : Int32} (h : m_take_j31 S l1 l2 s0 s1 = some (r, S')) : XW z (cM ad) 31 [(0, .ref (ad.1 0)), (1, .int l1), (2, .int l2)] [.int s0, .int s1] S := by
  unfold m_take_j31 at h
  obtain ⟨r34, e34, h⟩ := cal0_some h
  refine x_sipush C dX12_take_31 ks_999 (x_callSi C (c_m_in e34) k_X12_288 (by decide) (Nat.le_of_ble_eq_true rfl) rfl dX12_take_34 (x_if_ne C (tgt := 42) dX12_take_37 (by decide) (fun c => ?_) (fun c => ?_)))
  · have h := ite_f h c
    obtain ⟨g55, h⟩ := G_some h
    obtain ⟨g58, h⟩ := G_some h
    obtain ⟨g65, h⟩ := G_some h
    obtain ⟨g68, h⟩ := G_some h
    obtain ⟨g74, h⟩ := G_some h
    exact x_aload_n C dX12_take_42 rfl 0 rfl (gM_X12_62 C u_5_142 dX12_take_43 (x_bipush C dX12_take_46 kb_12 (x_iload_n C dX12_take_48 rfl 1 rfl (x_imul C dX12_take_49 (x_aload_n C dX12_take_50 rfl 0 rfl (gM_X12_63 C u_5_143 dX12_take_51 (x_iload_n C dX12_take_54 rfl 1 rfl (aM_38 C g55 dX12_take_55 (x_iadd C dX12_take_56 (x_iload_n C dX12_take_57 rfl 2 rfl (sM_37 C g58 dX12_take_58 (x_aload_n C dX12_take_59 rfl 0 rfl (gM_X12_63 C u_5_143 dX12_take_60 (x_iload_n C dX12_take_63 rfl 1 rfl (x_dup2 C dX12_take_64 rfl rfl (aM_38 C g65 dX12_take_65 (x_iconst C dX12_take_66 kc_1 (x_iadd C dX12_take_67 (sM_38 C g68 dX12_take_68 (x_aload_n C dX12_take_69 rfl 0 rfl (gM_X12_63 C u_5_143 dX12_take_70 (x_iload_n C dX12_take_73 rfl 1 rfl (aM_38 C g74 dX12_take_74 (x_iret E h retI dX12_take_75))))))))))))))))))))))))
  · have h := ite_t h c
    exact x_iconst C dX12_take_40 kc_m1 (x_iret E h retI dX12_take_41)
set_option maxHeartbeats 4000000 in
theorem c_m_take {ad : AD} {ek : EK} {lh : Launch} {Dh : va_G} {r : Int32} {S' : ST}  {S : ST} {l1 : Int32} {l2 : Int32} (h : m_take S l1 l2 = some (r, S')) : MXi lh Dh ad ek (cM ad) yX12_take cX12_take 3 (some .int) 2 [.ref (ad.1 0), .int l1, .int l2] S r S' := by
  refine mxi_of (by decide) (Nat.le_of_ble_eq_true rfl) (fun z C E => ?_)
  unfold m_take at h
  obtain ⟨r3, e3, h⟩ := cal0_some h
  refine x_iload_n C dX12_take_0 rfl 1 rfl (x_iconst C dX12_take_1 kc_0 (x_iconst C dX12_take_2 kc_2 (x_callSi C (c_m_in e3) k_X12_288 (by decide) (Nat.le_of_ble_eq_true rfl) rfl dX12_take_3 (x_if_eq C (tgt := 40) dX12_take_6 (by decide) (fun c => ?_) (fun c => ?_)))))
  · have h := ite_t h c
    exact x_iconst C dX12_take_40 kc_m1 (x_iret E h retI dX12_take_41)
  · have h := ite_f h c
    obtain ⟨g14, h⟩ := G_some h
    refine x_aload_n C dX12_take_9 rfl 0 rfl (gM_X12_63 C u_5_143 dX12_take_10 (x_iload_n C dX12_take_13 rfl 1 rfl (aM_38 C g14 dX12_take_14 (x_bipush C dX12_take_15 kb_12 (x_icmp_eq C (tgt := 40) dX12_take_17 (by decide) (fun c => ?_) (fun c => ?_))))))
    · have h := ite_t h c
      exact x_iconst C dX12_take_40 kc_m1 (x_iret E h retI dX12_take_41)
    · have h := ite_f h c
      refine x_iload_n C dX12_take_20 rfl 2 rfl (x_iload_n C dX12_take_21 rfl 1 rfl (x_iconst C dX12_take_22 kc_2 (x_icmp_ne C (tgt := 30) dX12_take_23 (by decide) (fun c => ?_) (fun c => ?_))))
      · have h := ite_f h c
        exact x_iconst C dX12_take_30 kc_1 (w_m_take_j31 C E h)
      · have h := ite_t h c
        exact x_iconst C dX12_take_26 kc_0 (x_goto C (tgt := 31) dX12_take_27 (by decide) (w_m_take_j31 C E h))
set_option maxHeartbeats 4000000 in
theorem c_m_turn {ad : AD} {ek : EK} {lh : Launch} {Dh : va_G} {r : Int32} {S' : ST}  {S : ST} {l1 : Int32} (h : m_turn S l1 = some (r, S')) : MXi lh Dh ad ek (cM ad) yX12_turn cX12_turn 2 (some .int) 2 [.ref (ad.1 0), .int l1] S r S' := by
  refine mxi_of (by decide) (Nat.le_of_ble_eq_true rfl) (fun z C E => ?_)
  unfold m_turn at h
  obtain ⟨r8, e8, h⟩ := cal0_some h
  refine x_iload_n C dX12_turn_0 rfl 1 rfl (x_iconst C dX12_turn_1 kc_0 (x_aload_n C dX12_turn_2 rfl 0 rfl (gM_X12_69 C u_5_149 dX12_turn_3 (x_iconst C dX12_turn_6 kc_1 (x_isub C dX12_turn_7 (x_callSi C (c_m_in e8) k_X12_288 (by decide) (Nat.le_of_ble_eq_true rfl) rfl dX12_turn_8 (x_if_eq C (tgt := 23) dX12_turn_11 (by decide) (fun c => ?_) (fun c => ?_))))))))
  · have h := ite_t h c
    exact x_iconst C dX12_turn_23 kc_m1 (x_iret E h retI dX12_turn_24)
  · have h := ite_f h c
    obtain ⟨g19, h⟩ := G_some h
    exact x_aload_n C dX12_turn_14 rfl 0 rfl (gM_X12_68 C u_5_148 dX12_turn_15 (x_iload_n C dX12_turn_18 rfl 1 rfl (aM_43 C g19 dX12_turn_19 (x_goto C (tgt := 24) dX12_turn_20 (by decide) (x_iret E h retI dX12_turn_24)))))
set_option maxHeartbeats 4000000 in
theorem c_m_whoIn {ad : AD} {ek : EK} {lh : Launch} {Dh : va_G} {r : Int32} {S' : ST}  {S : ST} {l1 : Int32} {l2 : Int32} {l3 : Int32} (h : m_whoIn S l1 l2 l3 = some (r, S')) : MXi lh Dh ad ek (cM ad) yX12_whoIn cX12_whoIn 6 (some .int) 2 [.ref (ad.1 0), .int l1, .int l2, .int l3] S r S' := by
  refine mxi_of (by decide) (Nat.le_of_ble_eq_true rfl) (fun z C E => ?_)
  unfold m_whoIn at h
  obtain ⟨r5, S5, e5, h⟩ := cal_some h
  refine x_aload_n C dX12_whoIn_0 rfl 0 rfl (x_iconst C dX12_whoIn_1 kc_1 (x_iload_n C dX12_whoIn_2 rfl 1 rfl (x_iload_n C dX12_whoIn_3 rfl 2 rfl (x_iload_n C dX12_whoIn_4 rfl 3 rfl (x_callVi C (c_m_latest e5) k_X12_321 (ci := 12) (q0 := 0) rfl rfl (by decide) (Nat.le_of_ble_eq_true rfl) rfl dX12_whoIn_5 (x_istore C dX12_whoIn_8 (by decide) rfl (x_iload C dX12_whoIn_10 0 rfl (x_iconst C dX12_whoIn_12 kc_m1 (x_icmp_ne C (tgt := 18) dX12_whoIn_13 (by decide) (fun c => ?_) (fun c => ?_))))))))))
  · have h := ite_f h c
    obtain ⟨g26, h⟩ := G_some h
    obtain ⟨r29, S29, e29, h⟩ := cal_some h
    obtain ⟨g40, h⟩ := G_some h
    refine x_aload_n C dX12_whoIn_18 rfl 1 rfl (x_iconst C dX12_whoIn_19 kc_0 (x_aload_n C dX12_whoIn_20 rfl 1 rfl (gM_X12_48 C u_5_128 dX12_whoIn_21 (x_iload C dX12_whoIn_24 0 rfl (aM_30 C g26 dX12_whoIn_26 (x_iload_n C dX12_whoIn_27 rfl 3 rfl (x_iload_n C dX12_whoIn_28 rfl 4 rfl (x_callVi C (c_m_latest e29) k_X12_321 (ci := 12) (q0 := 0) rfl rfl (by decide) (Nat.le_of_ble_eq_true rfl) rfl dX12_whoIn_29 (x_istore C dX12_whoIn_32 (by decide) rfl (x_aload_n C dX12_whoIn_34 rfl 2 rfl (gM_X12_49 C u_5_129 dX12_whoIn_35 (x_iload C dX12_whoIn_38 0 rfl (aM_31 C g40 dX12_whoIn_40 (x_iload_n C dX12_whoIn_41 rfl 3 rfl (x_icmp_ne C (tgt := 55) dX12_whoIn_42 (by decide) (fun c => ?_) (fun c => ?_))))))))))))))))
    · have h := ite_f h c
      exact x_iconst C dX12_whoIn_55 kc_m1 (x_iret E h retI dX12_whoIn_56)
    · have h := ite_t h c
      obtain ⟨g51, h⟩ := G_some h
      exact x_aload_n C dX12_whoIn_45 rfl 2 rfl (gM_X12_48 C u_5_128 dX12_whoIn_46 (x_iload C dX12_whoIn_49 1 rfl (aM_30 C g51 dX12_whoIn_51 (x_goto C (tgt := 56) dX12_whoIn_52 (by decide) (x_iret E h retI dX12_whoIn_56)))))
  · have h := ite_t h c
    exact x_iconst C dX12_whoIn_16 kc_m1 (x_iret E h retI dX12_whoIn_17)
set_option maxHeartbeats 4000000 in
theorem c_m_word {ad : AD} {ek : EK} {lh : Launch} {Dh : va_G} {w : ST → va_W} {S0 : ST} {r : Int64}  {l0 : Int32} {l1 : Int32} {l2 : Int32} {l3 : Int32} {l4 : Int32} {l5 : Int32} {l6 : Int32} (h : m_word l0 l1 l2 l3 l4 l5 l6 = some r) : MXl lh Dh ad ek w yX12_word cX12_word 7 (some .long) 2 [.int l0, .int l1, .int l2, .int l3, .int l4, .int l5, .int l6] S0 r S0 := by
  refine mxl_of (by decide) (Nat.le_of_ble_eq_true rfl) (fun z C E => ?_)
  unfold m_word at h
  obtain ⟨r2, e2, h⟩ := cal0_some h
  obtain ⟨r6, e6, h⟩ := cal0_some h
  obtain ⟨r10, e10, h⟩ := cal0_some h
  obtain ⟨r14, e14, h⟩ := cal0_some h
  obtain ⟨r19, e19, h⟩ := cal0_some h
  obtain ⟨r24, e24, h⟩ := cal0_some h
  obtain ⟨r29, e29, h⟩ := cal0_some h
  exact x_lconst C dX12_word_0 (v := 0) rfl (x_iload_n C dX12_word_1 rfl 0 rfl (x_callSl C (c_m_more e2) k_X12_171 (by decide) (Nat.le_of_ble_eq_true rfl) rfl dX12_word_2 (x_iload_n C dX12_word_5 rfl 1 rfl (x_callSl C (c_m_more e6) k_X12_171 (by decide) (Nat.le_of_ble_eq_true rfl) rfl dX12_word_6 (x_iload_n C dX12_word_9 rfl 2 rfl (x_callSl C (c_m_more e10) k_X12_171 (by decide) (Nat.le_of_ble_eq_true rfl) rfl dX12_word_10 (x_iload_n C dX12_word_13 rfl 3 rfl (x_callSl C (c_m_more e14) k_X12_171 (by decide) (Nat.le_of_ble_eq_true rfl) rfl dX12_word_14 (x_iload C dX12_word_17 4 rfl (x_callSl C (c_m_more e19) k_X12_171 (by decide) (Nat.le_of_ble_eq_true rfl) rfl dX12_word_19 (x_iload C dX12_word_22 5 rfl (x_callSl C (c_m_more e24) k_X12_171 (by decide) (Nat.le_of_ble_eq_true rfl) rfl dX12_word_24 (x_iload C dX12_word_27 6 rfl (x_callSl C (c_m_more e29) k_X12_171 (by decide) (Nat.le_of_ble_eq_true rfl) rfl dX12_word_29 (x_lret0 E h dX12_word_32)))))))))))))))
set_option maxHeartbeats 4000000 in
theorem w_m_cut_j291 {z : ZT} {ad : AD} {ek : EK} {lh : Launch} {Dh : va_G} {S' : ST} (C : CX z ad ek cX12_cut RX12 lh Dh 3 8) (E : EV z (cM ad) cX12_cut S') {Kb : ST → Int32 → Option ST} (hKb : ∀ (S : ST) (l1 : Int32) , Kb S l1 = some S' → XW z (cM ad) 7 [(0, .ref (ad.1 0)), (1, .int l1)] [] S) {K31 : ST → Option ST} (hK31 : ∀ (S : ST)  , K31 S = some S' → XW z (cM ad) 31 [(0, .ref (ad.1 0))] [] S) {S : ST} {l1 : Int32} (h : m_cut_j291 Kb K31 S l1 = some S') : XW z (cM ad) 291 [(0, .ref (ad.1 0)), (1, .int l1)] [] S := by
  unfold m_cut_j291 at h
  exact x_goto C (tgt := 7) dX12_cut_291 (by decide) (hKb _ _ h)
set_option maxHeartbeats 4000000 in
theorem w_m_cut_j261 {z : ZT} {ad : AD} {ek : EK} {lh : Launch} {Dh : va_G} {S' : ST} (C : CX z ad ek cX12_cut RX12 lh Dh 3 8) (E : EV z (cM ad) cX12_cut S') {Kb : ST → Int32 → Option ST} (hKb : ∀ (S : ST) (l1 : Int32) , Kb S l1 = some S' → XW z (cM ad) 7 [(0, .ref (ad.1 0)), (1, .int l1)] [] S) {K31 : ST → Option ST} (hK31 : ∀ (S : ST)  , K31 S = some S' → XW z (cM ad) 31 [(0, .ref (ad.1 0))] [] S) {S : ST} {l1 : Int32} {l3 : Int32} {l4 : Int32} {s0 : Int32} (h : m_cut_j261 Kb K31 S l1 l3 l4 s0 = some S') : XW z (cM ad) 261 [(0, .ref (ad.1 0)), (1, .int l1), (3, .int l3), (4, .int l4)] [.int s0, .ref (ad.1 0)] S := by
  unfold m_cut_j261 at h
  obtain ⟨S265, e265, h⟩ := calV_some h
  exact x_iload_n C dX12_cut_261 rfl 1 rfl (x_iload C dX12_cut_262 3 rfl (x_lconst C dX12_cut_264 (v := 0) rfl (x_callVv C (c_m_token e265) k_X12_182 (ci := 12) (q0 := 0) rfl rfl (by decide) (Nat.le_of_ble_eq_true rfl) rfl dX12_cut_265 (x_iload_n C dX12_cut_268 rfl 1 rfl (x_iload_n C dX12_cut_269 rfl 2 rfl (x_iadd C dX12_cut_270 (x_istore_n C dX12_cut_271 rfl (by decide) rfl (x_goto C (tgt := 291) dX12_cut_272 (by decide) (x_perm [1, 0] rfl (w_m_cut_j291 C E hKb hK31 h))))))))))
set_option maxHeartbeats 4000000 in
theorem w_m_cut_j250 {z : ZT} {ad : AD} {ek : EK} {lh : Launch} {Dh : va_G} {S' : ST} (C : CX z ad ek cX12_cut RX12 lh Dh 3 8) (E : EV z (cM ad) cX12_cut S') {Kb : ST → Int32 → Option ST} (hKb : ∀ (S : ST) (l1 : Int32) , Kb S l1 = some S' → XW z (cM ad) 7 [(0, .ref (ad.1 0)), (1, .int l1)] [] S) {K31 : ST → Option ST} (hK31 : ∀ (S : ST)  , K31 S = some S' → XW z (cM ad) 31 [(0, .ref (ad.1 0))] [] S) {S : ST} {l1 : Int32} {l3 : Int32} {l4 : Int32} (h : m_cut_j250 Kb K31 S l1 l3 l4 = some S') : XW z (cM ad) 250 [(0, .ref (ad.1 0)), (1, .int l1), (3, .int l3), (4, .int l4)] [] S := by
  unfold m_cut_j250 at h
  refine x_aload_n C dX12_cut_250 rfl 0 rfl (x_iload_n C dX12_cut_251 rfl 2 rfl (x_iconst C dX12_cut_252 kc_4 (x_icmp_le C (tgt := 260) dX12_cut_253 (by decide) (fun c => ?_) (fun c => ?_))))
  · have h := ite_t h c
    exact x_iconst C dX12_cut_260 kc_2 (w_m_cut_j261 C E hKb hK31 h)
  · have h := ite_f h c
    exact x_iconst C dX12_cut_256 kc_3 (x_goto C (tgt := 261) dX12_cut_257 (by decide) (w_m_cut_j261 C E hKb hK31 h))
set_option maxHeartbeats 4000000 in
theorem w_m_cut_j244 {z : ZT} {ad : AD} {ek : EK} {lh : Launch} {Dh : va_G} {S' : ST} (C : CX z ad ek cX12_cut RX12 lh Dh 3 8) (E : EV z (cM ad) cX12_cut S') {Kb : ST → Int32 → Int32 → Int32 → Option ST} (hKb : ∀ (S : ST) (l1 : Int32) (l3 : Int32) (l4 : Int32) , Kb S l1 l3 l4 = some S' → XW z (cM ad) 208 [(0, .ref (ad.1 0)), (1, .int l1), (3, .int l3), (4, .int l4)] [] S) {K250 : ST → Int32 → Int32 → Int32 → Option ST} (hK250 : ∀ (S : ST) (l1 : Int32) (l3 : Int32) (l4 : Int32) , K250 S l1 l3 l4 = some S' → XW z (cM ad) 250 [(0, .ref (ad.1 0)), (1, .int l1), (3, .int l3), (4, .int l4)] [] S) {S : ST} {l1 : Int32} {l3 : Int32} {l4 : Int32} (h : m_cut_j244 Kb K250 S l1 l3 l4 = some S') : XW z (cM ad) 244 [(0, .ref (ad.1 0)), (1, .int l1), (3, .int l3), (4, .int l4)] [] S := by
  unfold m_cut_j244 at h
  exact x_iinc C dX12_cut_244 2 rfl ki_1 (by decide) rfl (x_goto C (tgt := 208) dX12_cut_247 (by decide) (x_perm [1, 2, 0, 3] rfl (hKb _ _ _ _ h)))
set_option maxHeartbeats 4000000 in
theorem w_m_cut_h208 {z : ZT} {ad : AD} {ek : EK} {lh : Launch} {Dh : va_G} {S' : ST} (C : CX z ad ek cX12_cut RX12 lh Dh 3 8) (E : EV z (cM ad) cX12_cut S') {K250 : ST → Int32 → Int32 → Int32 → Option ST} (hK250 : ∀ (S : ST) (l1 : Int32) (l3 : Int32) (l4 : Int32) , K250 S l1 l3 l4 = some S' → XW z (cM ad) 250 [(0, .ref (ad.1 0)), (1, .int l1), (3, .int l3), (4, .int l4)] [] S) : ∀ (n : Nat) (S : ST) (l1 : Int32) (l3 : Int32) (l4 : Int32), m_cut_h208 K250 n S l1 l3 l4 = some S' → XW z (cM ad) 208 [(0, .ref (ad.1 0)), (1, .int l1), (3, .int l3), (4, .int l4)] [] S := by
  intro n
  induction n with
  | zero => intro S l1 l3 l4 h; cases h
  | succ n ih =>
    intro S l1 l3 l4 h
    have hKb := ih
    obtain ⟨r212, S212, e212, h⟩ := cal_some h
    obtain ⟨r215, e215, h⟩ := cal0_some h
    refine x_aload_n C dX12_cut_208 rfl 0 rfl (x_iload_n C dX12_cut_209 rfl 1 rfl (x_iload_n C dX12_cut_210 rfl 2 rfl (x_iadd C dX12_cut_211 (x_callVi C (c_m_byteAt e212) k_X12_178 (ci := 12) (q0 := 0) rfl rfl (by decide) (Nat.le_of_ble_eq_true rfl) rfl dX12_cut_212 (x_callSi C (c_m_isDigit e215) k_X12_190 (by decide) (Nat.le_of_ble_eq_true rfl) rfl dX12_cut_215 (x_if_eq C (tgt := 250) dX12_cut_218 (by decide) (fun c => ?_) (fun c => ?_)))))))
    · have h := ite_t h c
      exact hK250 _ _ _ _ h
    · have h := ite_f h c
      refine x_iload_n C dX12_cut_221 rfl 2 rfl (x_iconst C dX12_cut_222 kc_4 (x_icmp_ge C (tgt := 244) dX12_cut_223 (by decide) (fun c => ?_) (fun c => ?_)))
      · have h := ite_t h c
        exact w_m_cut_j244 C E hKb hK250 h
      · have h := ite_f h c
        obtain ⟨r235, S235, e235, h⟩ := cal_some h
        exact x_bipush C dX12_cut_226 kb_10 (x_iload C dX12_cut_228 3 rfl (x_imul C dX12_cut_230 (x_aload_n C dX12_cut_231 rfl 0 rfl (x_iload_n C dX12_cut_232 rfl 1 rfl (x_iload_n C dX12_cut_233 rfl 2 rfl (x_iadd C dX12_cut_234 (x_callVi C (c_m_byteAt e235) k_X12_178 (ci := 12) (q0 := 0) rfl rfl (by decide) (Nat.le_of_ble_eq_true rfl) rfl dX12_cut_235 (x_iadd C dX12_cut_238 (x_bipush C dX12_cut_239 kb_48 (x_isub C dX12_cut_241 (x_istore C dX12_cut_242 (by decide) rfl (x_perm [1, 2, 3, 0] rfl (w_m_cut_j244 C E hKb hK250 h)))))))))))))
set_option maxHeartbeats 4000000 in
theorem w_m_cut_j179 {z : ZT} {ad : AD} {ek : EK} {lh : Launch} {Dh : va_G} {S' : ST} (C : CX z ad ek cX12_cut RX12 lh Dh 3 8) (E : EV z (cM ad) cX12_cut S') {Kb : ST → Int32 → Option ST} (hKb : ∀ (S : ST) (l1 : Int32) , Kb S l1 = some S' → XW z (cM ad) 7 [(0, .ref (ad.1 0)), (1, .int l1)] [] S) {K31 : ST → Option ST} (hK31 : ∀ (S : ST)  , K31 S = some S' → XW z (cM ad) 31 [(0, .ref (ad.1 0))] [] S) {S : ST} {l1 : Int32} {l3 : Int32} {l4 : Int64} {l6 : Int32} (h : m_cut_j179 Kb K31 S l1 l3 l4 l6 = some S') : XW z (cM ad) 179 [(0, .ref (ad.1 0)), (1, .int l1), (3, .int l3), (4, .long l4), (6, .int l6)] [] S := by
  unfold m_cut_j179 at h
  obtain ⟨S186, e186, h⟩ := calV_some h
  exact x_aload_n C dX12_cut_179 rfl 0 rfl (x_iload C dX12_cut_180 4 rfl (x_iload_n C dX12_cut_182 rfl 1 rfl (x_iconst C dX12_cut_183 kc_0 (x_lload C dX12_cut_184 3 rfl (x_callVv C (c_m_token e186) k_X12_182 (ci := 12) (q0 := 0) rfl rfl (by decide) (Nat.le_of_ble_eq_true rfl) rfl dX12_cut_186 (x_iload_n C dX12_cut_189 rfl 1 rfl (x_iload_n C dX12_cut_190 rfl 2 rfl (x_iadd C dX12_cut_191 (x_istore_n C dX12_cut_192 rfl (by decide) rfl (x_goto C (tgt := 291) dX12_cut_193 (by decide) (x_perm [1, 0] rfl (w_m_cut_j291 C E hKb hK31 h))))))))))))
set_option maxHeartbeats 4000000 in
theorem w_m_cut_j173 {z : ZT} {ad : AD} {ek : EK} {lh : Launch} {Dh : va_G} {S' : ST} (C : CX z ad ek cX12_cut RX12 lh Dh 3 8) (E : EV z (cM ad) cX12_cut S') {Kb : ST → Int32 → Int32 → Int64 → Int32 → Int32 → Option ST} (hKb : ∀ (S : ST) (l1 : Int32) (l3 : Int32) (l4 : Int64) (l6 : Int32) (l7 : Int32) , Kb S l1 l3 l4 l6 l7 = some S' → XW z (cM ad) 146 [(0, .ref (ad.1 0)), (1, .int l1), (3, .int l3), (4, .long l4), (6, .int l6), (7, .int l7)] [] S) {K179 : ST → Int32 → Int32 → Int64 → Int32 → Option ST} (hK179 : ∀ (S : ST) (l1 : Int32) (l3 : Int32) (l4 : Int64) (l6 : Int32) , K179 S l1 l3 l4 l6 = some S' → XW z (cM ad) 179 [(0, .ref (ad.1 0)), (1, .int l1), (3, .int l3), (4, .long l4), (6, .int l6)] [] S) {S : ST} {l1 : Int32} {l3 : Int32} {l4 : Int64} {l6 : Int32} {l7 : Int32} (h : m_cut_j173 Kb K179 S l1 l3 l4 l6 l7 = some S') : XW z (cM ad) 173 [(0, .ref (ad.1 0)), (1, .int l1), (3, .int l3), (4, .long l4), (6, .int l6), (7, .int l7)] [] S := by
  unfold m_cut_j173 at h
  exact x_iinc C dX12_cut_173 5 rfl ki_1 (by decide) rfl (x_goto C (tgt := 146) dX12_cut_176 (by decide) (x_perm [1, 2, 3, 4, 5, 0] rfl (hKb _ _ _ _ _ _ h)))
set_option maxHeartbeats 4000000 in
theorem w_m_cut_h146 {z : ZT} {ad : AD} {ek : EK} {lh : Launch} {Dh : va_G} {S' : ST} (C : CX z ad ek cX12_cut RX12 lh Dh 3 8) (E : EV z (cM ad) cX12_cut S') {K179 : ST → Int32 → Int32 → Int64 → Int32 → Option ST} (hK179 : ∀ (S : ST) (l1 : Int32) (l3 : Int32) (l4 : Int64) (l6 : Int32) , K179 S l1 l3 l4 l6 = some S' → XW z (cM ad) 179 [(0, .ref (ad.1 0)), (1, .int l1), (3, .int l3), (4, .long l4), (6, .int l6)] [] S) : ∀ (n : Nat) (S : ST) (l1 : Int32) (l3 : Int32) (l4 : Int64) (l6 : Int32) (l7 : Int32), m_cut_h146 K179 n S l1 l3 l4 l6 l7 = some S' → XW z (cM ad) 146 [(0, .ref (ad.1 0)), (1, .int l1), (3, .int l3), (4, .long l4), (6, .int l6), (7, .int l7)] [] S := by
  intro n
  induction n with
  | zero => intro S l1 l3 l4 l6 l7 h; cases h
  | succ n ih =>
    intro S l1 l3 l4 l6 l7 h
    have hKb := ih
    refine x_iload C dX12_cut_146 5 rfl (x_bipush C dX12_cut_148 kb_24 (x_icmp_ge C (tgt := 179) dX12_cut_150 (by decide) (fun c => ?_) (fun c => ?_)))
    · have h := ite_t h c
      exact x_perm [0, 1, 2, 3, 4] rfl (hK179 _ _ _ _ _ h)
    · have h := ite_f h c
      obtain ⟨g159, h⟩ := G_some h
      refine x_aload_n C dX12_cut_153 rfl 0 rfl (gM_X12_9 C u_5_89 dX12_cut_154 (x_iload C dX12_cut_157 5 rfl (aM_7 C g159 dX12_cut_159 (x_lload C dX12_cut_160 3 rfl (x_lcmp C dX12_cut_162 (x_if_ne C (tgt := 173) dX12_cut_163 (by decide) (fun c => ?_) (fun c => ?_)))))))
      · have h := ite_f h c
        exact w_m_cut_j173 C E hKb hK179 h
      · have h := ite_t h c
        exact x_bipush C dX12_cut_166 kb_20 (x_iload C dX12_cut_168 5 rfl (x_iadd C dX12_cut_170 (x_istore C dX12_cut_171 (by decide) rfl (x_perm [1, 2, 3, 4, 0, 5] rfl (w_m_cut_j173 C E hKb hK179 h)))))
set_option maxHeartbeats 4000000 in
theorem w_m_cut_j135 {z : ZT} {ad : AD} {ek : EK} {lh : Launch} {Dh : va_G} {S' : ST} (C : CX z ad ek cX12_cut RX12 lh Dh 3 8) (E : EV z (cM ad) cX12_cut S') {Kb : ST → Int32 → Option ST} (hKb : ∀ (S : ST) (l1 : Int32) , Kb S l1 = some S' → XW z (cM ad) 7 [(0, .ref (ad.1 0)), (1, .int l1)] [] S) {K31 : ST → Option ST} (hK31 : ∀ (S : ST)  , K31 S = some S' → XW z (cM ad) 31 [(0, .ref (ad.1 0))] [] S) {S : ST} {l1 : Int32} {l3 : Int32} {l4 : Int64} {s0 : Int32} (h : m_cut_j135 Kb K31 S l1 l3 l4 s0 = some S') : XW z (cM ad) 135 [(0, .ref (ad.1 0)), (1, .int l1), (3, .int l3), (4, .long l4)] [.int s0] S := by
  unfold m_cut_j135 at h
  refine x_istore C dX12_cut_135 (by decide) rfl (x_iload_n C dX12_cut_137 rfl 3 rfl (x_bipush C dX12_cut_138 kb_7 (x_icmp_gt C (tgt := 179) dX12_cut_140 (by decide) (fun c => ?_) (fun c => ?_))))
  · have h := ite_t h c
    exact x_perm [1, 2, 3, 4, 0] rfl (w_m_cut_j179 C E hKb hK31 h)
  · have h := ite_f h c
    exact x_iconst C dX12_cut_143 kc_0 (x_istore C dX12_cut_144 (by decide) rfl (x_perm [2, 3, 4, 5, 1, 0] rfl (w_m_cut_h146 C E (fun _ _ _ _ _ h => w_m_cut_j179 C E hKb hK31 h) FU _ _ _ _ _ _ h)))
set_option maxHeartbeats 4000000 in
theorem w_m_cut_j124 {z : ZT} {ad : AD} {ek : EK} {lh : Launch} {Dh : va_G} {S' : ST} (C : CX z ad ek cX12_cut RX12 lh Dh 3 8) (E : EV z (cM ad) cX12_cut S') {Kb : ST → Int32 → Option ST} (hKb : ∀ (S : ST) (l1 : Int32) , Kb S l1 = some S' → XW z (cM ad) 7 [(0, .ref (ad.1 0)), (1, .int l1)] [] S) {K31 : ST → Option ST} (hK31 : ∀ (S : ST)  , K31 S = some S' → XW z (cM ad) 31 [(0, .ref (ad.1 0))] [] S) {S : ST} {l1 : Int32} {l3 : Int32} {l4 : Int64} (h : m_cut_j124 Kb K31 S l1 l3 l4 = some S') : XW z (cM ad) 124 [(0, .ref (ad.1 0)), (1, .int l1), (3, .int l3), (4, .long l4)] [] S := by
  unfold m_cut_j124 at h
  refine x_iload_n C dX12_cut_124 rfl 2 rfl (x_bipush C dX12_cut_125 kb_8 (x_icmp_le C (tgt := 134) dX12_cut_127 (by decide) (fun c => ?_) (fun c => ?_)))
  · have h := ite_t h c
    exact x_iconst C dX12_cut_134 kc_1 (w_m_cut_j135 C E hKb hK31 h)
  · have h := ite_f h c
    exact x_iconst C dX12_cut_130 kc_3 (x_goto C (tgt := 135) dX12_cut_131 (by decide) (w_m_cut_j135 C E hKb hK31 h))
set_option maxHeartbeats 4000000 in
theorem w_m_cut_j118 {z : ZT} {ad : AD} {ek : EK} {lh : Launch} {Dh : va_G} {S' : ST} (C : CX z ad ek cX12_cut RX12 lh Dh 3 8) (E : EV z (cM ad) cX12_cut S') {Kb : ST → Int32 → Int32 → Int64 → Option ST} (hKb : ∀ (S : ST) (l1 : Int32) (l3 : Int32) (l4 : Int64) , Kb S l1 l3 l4 = some S' → XW z (cM ad) 85 [(0, .ref (ad.1 0)), (1, .int l1), (3, .int l3), (4, .long l4)] [] S) {K124 : ST → Int32 → Int32 → Int64 → Option ST} (hK124 : ∀ (S : ST) (l1 : Int32) (l3 : Int32) (l4 : Int64) , K124 S l1 l3 l4 = some S' → XW z (cM ad) 124 [(0, .ref (ad.1 0)), (1, .int l1), (3, .int l3), (4, .long l4)] [] S) {S : ST} {l1 : Int32} {l3 : Int32} {l4 : Int64} (h : m_cut_j118 Kb K124 S l1 l3 l4 = some S') : XW z (cM ad) 118 [(0, .ref (ad.1 0)), (1, .int l1), (3, .int l3), (4, .long l4)] [] S := by
  unfold m_cut_j118 at h
  exact x_iinc C dX12_cut_118 2 rfl ki_1 (by decide) rfl (x_goto C (tgt := 85) dX12_cut_121 (by decide) (x_perm [1, 2, 0, 3] rfl (hKb _ _ _ _ h)))
set_option maxHeartbeats 4000000 in
theorem w_m_cut_h85 {z : ZT} {ad : AD} {ek : EK} {lh : Launch} {Dh : va_G} {S' : ST} (C : CX z ad ek cX12_cut RX12 lh Dh 3 8) (E : EV z (cM ad) cX12_cut S') {K124 : ST → Int32 → Int32 → Int64 → Option ST} (hK124 : ∀ (S : ST) (l1 : Int32) (l3 : Int32) (l4 : Int64) , K124 S l1 l3 l4 = some S' → XW z (cM ad) 124 [(0, .ref (ad.1 0)), (1, .int l1), (3, .int l3), (4, .long l4)] [] S) : ∀ (n : Nat) (S : ST) (l1 : Int32) (l3 : Int32) (l4 : Int64), m_cut_h85 K124 n S l1 l3 l4 = some S' → XW z (cM ad) 85 [(0, .ref (ad.1 0)), (1, .int l1), (3, .int l3), (4, .long l4)] [] S := by
  intro n
  induction n with
  | zero => intro S l1 l3 l4 h; cases h
  | succ n ih =>
    intro S l1 l3 l4 h
    have hKb := ih
    obtain ⟨r89, S89, e89, h⟩ := cal_some h
    obtain ⟨r92, e92, h⟩ := cal0_some h
    refine x_aload_n C dX12_cut_85 rfl 0 rfl (x_iload_n C dX12_cut_86 rfl 1 rfl (x_iload_n C dX12_cut_87 rfl 2 rfl (x_iadd C dX12_cut_88 (x_callVi C (c_m_byteAt e89) k_X12_178 (ci := 12) (q0 := 0) rfl rfl (by decide) (Nat.le_of_ble_eq_true rfl) rfl dX12_cut_89 (x_callSi C (c_m_isLetter e92) k_X12_186 (by decide) (Nat.le_of_ble_eq_true rfl) rfl dX12_cut_92 (x_if_eq C (tgt := 124) dX12_cut_95 (by decide) (fun c => ?_) (fun c => ?_)))))))
    · have h := ite_t h c
      exact hK124 _ _ _ _ h
    · have h := ite_f h c
      refine x_iload_n C dX12_cut_98 rfl 2 rfl (x_bipush C dX12_cut_99 kb_8 (x_icmp_ge C (tgt := 118) dX12_cut_101 (by decide) (fun c => ?_) (fun c => ?_)))
      · have h := ite_t h c
        exact w_m_cut_j118 C E hKb hK124 h
      · have h := ite_f h c
        obtain ⟨r110, S110, e110, h⟩ := cal_some h
        obtain ⟨r113, e113, h⟩ := cal0_some h
        exact x_lload C dX12_cut_104 3 rfl (x_aload_n C dX12_cut_106 rfl 0 rfl (x_iload_n C dX12_cut_107 rfl 1 rfl (x_iload_n C dX12_cut_108 rfl 2 rfl (x_iadd C dX12_cut_109 (x_callVi C (c_m_byteAt e110) k_X12_178 (ci := 12) (q0 := 0) rfl rfl (by decide) (Nat.le_of_ble_eq_true rfl) rfl dX12_cut_110 (x_callSl C (c_m_more e113) k_X12_171 (by decide) (Nat.le_of_ble_eq_true rfl) rfl dX12_cut_113 (x_lstore C dX12_cut_116 (by decide) rfl (x_perm [1, 2, 3, 0] rfl (w_m_cut_j118 C E hKb hK124 h)))))))))
set_option maxHeartbeats 4000000 in
theorem w_m_cut_j67 {z : ZT} {ad : AD} {ek : EK} {lh : Launch} {Dh : va_G} {S' : ST} (C : CX z ad ek cX12_cut RX12 lh Dh 3 8) (E : EV z (cM ad) cX12_cut S') {Kb : ST → Int32 → Option ST} (hKb : ∀ (S : ST) (l1 : Int32) , Kb S l1 = some S' → XW z (cM ad) 7 [(0, .ref (ad.1 0)), (1, .int l1)] [] S) {K31 : ST → Option ST} (hK31 : ∀ (S : ST)  , K31 S = some S' → XW z (cM ad) 31 [(0, .ref (ad.1 0))] [] S) {S : ST} {l1 : Int32} (h : m_cut_j67 Kb K31 S l1 = some S') : XW z (cM ad) 67 [(0, .ref (ad.1 0)), (1, .int l1)] [] S := by
  unfold m_cut_j67 at h
  exact x_iinc C dX12_cut_67 1 rfl ki_1 (by decide) rfl (x_goto C (tgt := 291) dX12_cut_70 (by decide) (x_perm [1, 0] rfl (w_m_cut_j291 C E hKb hK31 h)))
set_option maxHeartbeats 4000000 in
theorem w_m_cut_j31 {z : ZT} {ad : AD} {ek : EK} {lh : Launch} {Dh : va_G} {S' : ST} (C : CX z ad ek cX12_cut RX12 lh Dh 3 8) (E : EV z (cM ad) cX12_cut S') {S : ST} (h : m_cut_j31 S = some S') : XW z (cM ad) 31 [(0, .ref (ad.1 0))] [] S := by
  unfold m_cut_j31 at h
  obtain ⟨S39, e39, h⟩ := calV_some h
  exact x_aload_n C dX12_cut_31 rfl 0 rfl (x_iconst C dX12_cut_32 kc_0 (x_aload_n C dX12_cut_33 rfl 0 rfl (gM_X12_4 C u_5_84 dX12_cut_34 (x_iconst C dX12_cut_37 kc_0 (x_lconst C dX12_cut_38 (v := 0) rfl (x_callVv C (c_m_token e39) k_X12_182 (ci := 12) (q0 := 0) rfl rfl (by decide) (Nat.le_of_ble_eq_true rfl) rfl dX12_cut_39 (x_vret E h dX12_cut_42)))))))
set_option maxHeartbeats 4000000 in
theorem w_m_cut_h7 {z : ZT} {ad : AD} {ek : EK} {lh : Launch} {Dh : va_G} {S' : ST} (C : CX z ad ek cX12_cut RX12 lh Dh 3 8) (E : EV z (cM ad) cX12_cut S') {K31 : ST → Option ST} (hK31 : ∀ (S : ST)  , K31 S = some S' → XW z (cM ad) 31 [(0, .ref (ad.1 0))] [] S) : ∀ (n : Nat) (S : ST) (l1 : Int32), m_cut_h7 K31 n S l1 = some S' → XW z (cM ad) 7 [(0, .ref (ad.1 0)), (1, .int l1)] [] S := by
  intro n
  induction n with
  | zero => intro S l1 h; cases h
  | succ n ih =>
    intro S l1 h
    have hKb := ih
    refine x_aload_n C dX12_cut_7 rfl 0 rfl (gM_X12_10 C u_5_90 dX12_cut_8 (x_sipush C dX12_cut_11 ks_400 (x_icmp_gt C (tgt := 294) dX12_cut_14 (by decide) (fun c => ?_) (fun c => ?_))))
    · have h := ite_t h c
      exact (by
        exact x_vret E h dX12_cut_294)
    · have h := ite_f h c
      obtain ⟨r19, S19, e19, h⟩ := cal_some h
      refine x_aload_n C dX12_cut_17 rfl 0 rfl (x_iload_n C dX12_cut_18 rfl 1 rfl (x_callVi C (c_m_byteAt e19) k_X12_178 (ci := 12) (q0 := 0) rfl rfl (by decide) (Nat.le_of_ble_eq_true rfl) rfl dX12_cut_19 (x_istore_n C dX12_cut_22 rfl (by decide) rfl (x_iload_n C dX12_cut_23 rfl 2 rfl (x_aload_n C dX12_cut_24 rfl 1 rfl (gM_X12_4 C u_5_84 dX12_cut_25 (x_icmp_lt C (tgt := 43) dX12_cut_28 (by decide) (fun c => ?_) (fun c => ?_))))))))
      · have h := ite_t h c
        refine x_iload_n C dX12_cut_43 rfl 0 rfl (x_bipush C dX12_cut_44 kb_9 (x_icmp_eq C (tgt := 67) dX12_cut_46 (by decide) (fun c => ?_) (fun c => ?_)))
        · have h := ite_t h c
          exact x_perm [1, 2] rfl (w_m_cut_j67 C E hKb hK31 h)
        · have h := ite_f h c
          refine x_iload_n C dX12_cut_49 rfl 0 rfl (x_bipush C dX12_cut_50 kb_10 (x_icmp_eq C (tgt := 67) dX12_cut_52 (by decide) (fun c => ?_) (fun c => ?_)))
          · have h := ite_t h c
            exact x_perm [1, 2] rfl (w_m_cut_j67 C E hKb hK31 h)
          · have h := ite_f h c
            refine x_iload_n C dX12_cut_55 rfl 0 rfl (x_bipush C dX12_cut_56 kb_13 (x_icmp_eq C (tgt := 67) dX12_cut_58 (by decide) (fun c => ?_) (fun c => ?_)))
            · have h := ite_t h c
              exact x_perm [1, 2] rfl (w_m_cut_j67 C E hKb hK31 h)
            · have h := ite_f h c
              refine x_iload_n C dX12_cut_61 rfl 0 rfl (x_bipush C dX12_cut_62 kb_32 (x_icmp_ne C (tgt := 73) dX12_cut_64 (by decide) (fun c => ?_) (fun c => ?_)))
              · have h := ite_f h c
                obtain ⟨r74, e74, h⟩ := cal0_some h
                refine x_iload_n C dX12_cut_73 rfl 0 rfl (x_callSi C (c_m_isLetter e74) k_X12_186 (by decide) (Nat.le_of_ble_eq_true rfl) rfl dX12_cut_74 (x_if_eq C (tgt := 196) dX12_cut_77 (by decide) (fun c => ?_) (fun c => ?_)))
                · have h := ite_t h c
                  obtain ⟨r197, e197, h⟩ := cal0_some h
                  refine x_iload_n C dX12_cut_196 rfl 0 rfl (x_callSi C (c_m_isDigit e197) k_X12_190 (by decide) (Nat.le_of_ble_eq_true rfl) rfl dX12_cut_197 (x_if_eq C (tgt := 275) dX12_cut_200 (by decide) (fun c => ?_) (fun c => ?_)))
                  · have h := ite_t h c
                    obtain ⟨r283, S283, e283, h⟩ := cal_some h
                    obtain ⟨r286, S286, e286, h⟩ := cal_some h
                    exact x_iload_n C dX12_cut_275 rfl 2 rfl (x_aload_n C dX12_cut_276 rfl 1 rfl (x_iload_n C dX12_cut_277 rfl 2 rfl (x_iload_n C dX12_cut_278 rfl 0 rfl (x_aload_n C dX12_cut_279 rfl 1 rfl (x_iload_n C dX12_cut_280 rfl 2 rfl (x_iconst C dX12_cut_281 kc_1 (x_iadd C dX12_cut_282 (x_callVi C (c_m_byteAt e283) k_X12_178 (ci := 12) (q0 := 0) rfl rfl (by decide) (Nat.le_of_ble_eq_true rfl) rfl dX12_cut_283 (x_callVi C (c_m_sign e286) k_X12_193 (ci := 12) (q0 := 0) rfl rfl (by decide) (Nat.le_of_ble_eq_true rfl) rfl dX12_cut_286 (x_iadd C dX12_cut_289 (x_istore_n C dX12_cut_290 rfl (by decide) rfl (x_perm [2, 0] rfl (w_m_cut_j291 C E hKb hK31 h)))))))))))))
                  · have h := ite_f h c
                    exact x_iconst C dX12_cut_203 kc_0 (x_istore_n C dX12_cut_204 rfl (by decide) rfl (x_iconst C dX12_cut_205 kc_0 (x_istore C dX12_cut_206 (by decide) rfl (x_perm [3, 4, 1, 0] rfl (w_m_cut_h208 C E (fun _ _ _ _ h => w_m_cut_j250 C E hKb hK31 h) FU _ _ _ _ h)))))
                · have h := ite_f h c
                  exact x_iconst C dX12_cut_80 kc_0 (x_istore_n C dX12_cut_81 rfl (by decide) rfl (x_lconst C dX12_cut_82 (v := 0) rfl (x_lstore C dX12_cut_83 (by decide) rfl (x_perm [3, 4, 1, 0] rfl (w_m_cut_h85 C E (fun _ _ _ _ h => w_m_cut_j124 C E hKb hK31 h) FU _ _ _ _ h)))))
              · have h := ite_t h c
                exact x_perm [1, 2] rfl (w_m_cut_j67 C E hKb hK31 h)
      · have h := ite_f h c
        exact x_perm [1] rfl (hK31 _ h)
set_option maxHeartbeats 4000000 in
theorem c_m_cut {ad : AD} {ek : EK} {lh : Launch} {Dh : va_G} {S' : ST}  {S : ST} (h : m_cut S = some S') : MXv lh Dh ad ek (cM ad) yX12_cut cX12_cut 8 none 3 [.ref (ad.1 0)] S S' := by
  refine mxv_of (by decide) (Nat.le_of_ble_eq_true rfl) (fun z C E => ?_)
  unfold m_cut at h
  exact x_aload_n C dX12_cut_0 rfl 0 rfl (x_iconst C dX12_cut_1 kc_0 (pM_X12_10 C u_5_90 dX12_cut_2 (x_iconst C dX12_cut_5 kc_0 (x_istore_n C dX12_cut_6 rfl (by decide) rfl (x_perm [1, 0] rfl (w_m_cut_h7 C E (fun _ h => w_m_cut_j31 C E  h) FU _ _ h))))))
