set_option maxHeartbeats 4000000 in
theorem c_m_back {ad : AD} {ek : EK} {lh : Launch} {Dh : va_G} {r : Int32} {S' : ST}  {S : ST} {l1 : Int32} (h : m_back S l1 = some (r, S')) : MXi lh Dh ad ek (cM ad) yX12_back cX12_back 2 (some .int) 1 [.ref (ad.1 0), .int l1] S r S' := by
  refine mxi_of (by decide) (Nat.le_of_ble_eq_true rfl) (fun z C E => ?_)
  unfold m_back at h
  refine x_iload_n C dX12_back_0 rfl 1 rfl (x_if_lt C (tgt := 12) dX12_back_1 (by decide) (fun c => ?_) (fun c => ?_))
  · have h := ite_t h c
    exact x_iconst C dX12_back_12 kc_m1 (x_iret E h retI dX12_back_13)
  · have h := ite_f h c
    refine x_iload_n C dX12_back_4 rfl 1 rfl (x_aload_n C dX12_back_5 rfl 0 rfl (gM_X12_2 C u_5_82 dX12_back_6 (x_icmp_le C (tgt := 14) dX12_back_9 (by decide) (fun c => ?_) (fun c => ?_))))
    · have h := ite_t h c
      exact x_aload_n C dX12_back_14 rfl 0 rfl (x_dup C dX12_back_15 rfl (gM_X12_2 C u_5_82 dX12_back_16 (x_iload_n C dX12_back_19 rfl 1 rfl (x_isub C dX12_back_20 (pM_X12_2 C u_5_82 dX12_back_21 (x_aload_n C dX12_back_24 rfl 0 rfl (gM_X12_2 C u_5_82 dX12_back_25 (x_iret E h retI dX12_back_28))))))))
    · have h := ite_f h c
      exact x_iconst C dX12_back_12 kc_m1 (x_iret E h retI dX12_back_13)
set_option maxHeartbeats 4000000 in
theorem c_m_byteAt {ad : AD} {ek : EK} {lh : Launch} {Dh : va_G} {r : Int32} {S' : ST}  {S : ST} {l1 : Int32} (h : m_byteAt S l1 = some (r, S')) : MXi lh Dh ad ek (cM ad) yX12_byteAt cX12_byteAt 2 (some .int) 1 [.ref (ad.1 0), .int l1] S r S' := by
  refine mxi_of (by decide) (Nat.le_of_ble_eq_true rfl) (fun z C E => ?_)
  unfold m_byteAt at h
  refine x_iload_n C dX12_byteAt_0 rfl 1 rfl (x_aload_n C dX12_byteAt_1 rfl 0 rfl (gM_X12_4 C u_5_84 dX12_byteAt_2 (x_icmp_ge C (tgt := 21) dX12_byteAt_5 (by decide) (fun c => ?_) (fun c => ?_))))
  · have h := ite_t h c
    exact x_iconst C dX12_byteAt_21 kc_0 (x_iret E h retI dX12_byteAt_22)
  · have h := ite_f h c
    obtain ⟨g13, h⟩ := G_some h
    exact x_aload_n C dX12_byteAt_8 rfl 0 rfl (gM_X12_3 C u_5_83 dX12_byteAt_9 (x_iload_n C dX12_byteAt_12 rfl 1 rfl (aM_2 C g13 dX12_byteAt_13 (x_sipush C dX12_byteAt_14 ks_255 (x_iand C dX12_byteAt_17 (x_goto C (tgt := 22) dX12_byteAt_18 (by decide) (x_iret E h retI dX12_byteAt_22)))))))
set_option maxHeartbeats 4000000 in
theorem c_m_changed {ad : AD} {ek : EK} {lh : Launch} {Dh : va_G} {S' : ST}  {S : ST} (h : m_changed S = some S') : MXv lh Dh ad ek (cM ad) yX12_changed cX12_changed 1 none 1 [.ref (ad.1 0)] S S' := by
  refine mxv_of (by decide) (Nat.le_of_ble_eq_true rfl) (fun z C E => ?_)
  unfold m_changed at h
  exact x_aload_n C dX12_changed_0 rfl 0 rfl (x_iconst C dX12_changed_1 kc_m1 (pM_X12_42 C u_5_122 dX12_changed_2 (x_vret E h dX12_changed_5)))
set_option maxHeartbeats 4000000 in
theorem w_m_clear_h2 {z : ZT} {ad : AD} {ek : EK} {lh : Launch} {Dh : va_G} {S' : ST} (C : CX z ad ek cX12_clear RX12 lh Dh 1 2) (E : EV z (cM ad) cX12_clear S') : ∀ (n : Nat) (S : ST) (l1 : Int32), m_clear_h2 n S l1 = some S' → XW z (cM ad) 2 [(0, .ref (ad.1 0)), (1, .int l1)] [] S := by
  intro n
  induction n with
  | zero => intro S l1 h; cases h
  | succ n ih =>
    intro S l1 h
    have hKb := ih
    refine x_iload_n C dX12_clear_2 rfl 1 rfl (x_iconst C dX12_clear_3 kc_3 (x_icmp_ge C (tgt := 20) dX12_clear_4 (by decide) (fun c => ?_) (fun c => ?_)))
    · have h := ite_t h c
      exact (by
        exact x_vret E h dX12_clear_20)
    · have h := ite_f h c
      obtain ⟨g13, h⟩ := G_some h
      exact x_aload_n C dX12_clear_7 rfl 0 rfl (gM_X12_63 C u_5_143 dX12_clear_8 (x_iload_n C dX12_clear_11 rfl 1 rfl (x_iconst C dX12_clear_12 kc_0 (sM_38 C g13 dX12_clear_13 (x_iinc C dX12_clear_14 1 rfl ki_1 (by decide) rfl (x_goto C (tgt := 2) dX12_clear_17 (by decide) (x_perm [1, 0] rfl (hKb _ _ h))))))))
set_option maxHeartbeats 4000000 in
theorem c_m_clear {ad : AD} {ek : EK} {lh : Launch} {Dh : va_G} {S' : ST}  {S : ST} (h : m_clear S = some S') : MXv lh Dh ad ek (cM ad) yX12_clear cX12_clear 2 none 1 [.ref (ad.1 0)] S S' := by
  refine mxv_of (by decide) (Nat.le_of_ble_eq_true rfl) (fun z C E => ?_)
  unfold m_clear at h
  exact x_iconst C dX12_clear_0 kc_0 (x_istore_n C dX12_clear_1 rfl (by decide) rfl (x_perm [1, 0] rfl (w_m_clear_h2 C E FU _ _ h)))
set_option maxHeartbeats 4000000 in
theorem w_m_comes_h69 {z : ZT} {ad : AD} {ek : EK} {lh : Launch} {Dh : va_G} {S' : ST} (C : CX z ad ek cX12_comes RX12 lh Dh 1 4) (E : EV z (cM ad) cX12_comes S') : ∀ (n : Nat) (S : ST) (l3 : Int32), m_comes_h69 n S l3 = some S' → XW z (cM ad) 69 [(0, .ref (ad.1 0)), (3, .int l3)] [] S := by
  intro n
  induction n with
  | zero => intro S l3 h; cases h
  | succ n ih =>
    intro S l3 h
    have hKb := ih
    refine x_iload_n C dX12_comes_69 rfl 1 rfl (x_aload_n C dX12_comes_70 rfl 0 rfl (gM_X12_43 C u_5_123 dX12_comes_71 (x_icmp_ge C (tgt := 97) dX12_comes_74 (by decide) (fun c => ?_) (fun c => ?_))))
    · have h := ite_t h c
      exact (by
        exact x_vret E h dX12_comes_97)
    · have h := ite_f h c
      obtain ⟨g89, h⟩ := G_some h
      obtain ⟨g90, h⟩ := G_some h
      exact x_aload_n C dX12_comes_77 rfl 0 rfl (gM_X12_44 C u_5_124 dX12_comes_78 (x_iload_n C dX12_comes_81 rfl 1 rfl (x_aload_n C dX12_comes_82 rfl 0 rfl (gM_X12_44 C u_5_124 dX12_comes_83 (x_iload_n C dX12_comes_86 rfl 1 rfl (x_iconst C dX12_comes_87 kc_1 (x_iadd C dX12_comes_88 (aM_27 C g89 dX12_comes_89 (sM_27 C g90 dX12_comes_90 (x_iinc C dX12_comes_91 1 rfl ki_1 (by decide) rfl (x_goto C (tgt := 69) dX12_comes_94 (by decide) (x_perm [1, 0] rfl (hKb _ _ h)))))))))))))
set_option maxHeartbeats 4000000 in
theorem w_m_comes_j41 {z : ZT} {ad : AD} {ek : EK} {lh : Launch} {Dh : va_G} {S' : ST} (C : CX z ad ek cX12_comes RX12 lh Dh 1 4) (E : EV z (cM ad) cX12_comes S') {S : ST} {l1 : Int32} {l2 : Int32} (h : m_comes_j41 S l1 l2 = some S') : XW z (cM ad) 41 [(0, .ref (ad.1 0)), (1, .int l1), (2, .int l2)] [] S := by
  unfold m_comes_j41 at h
  obtain ⟨g46, h⟩ := G_some h
  refine x_aload_n C dX12_comes_41 rfl 0 rfl (gM_X12_21 C u_5_101 dX12_comes_42 (x_iload_n C dX12_comes_45 rfl 1 rfl (aM_10 C g46 dX12_comes_46 (x_iconst C dX12_comes_47 kc_5 (x_icmp_ne C (tgt := 98) dX12_comes_48 (by decide) (fun c => ?_) (fun c => ?_))))))
  · have h := ite_f h c
    refine x_iload_n C dX12_comes_98 rfl 2 rfl (x_iconst C dX12_comes_99 kc_m1 (x_icmp_ne C (tgt := 118) dX12_comes_100 (by decide) (fun c => ?_) (fun c => ?_)))
    · have h := ite_f h c
      obtain ⟨g124, h⟩ := G_some h
      exact x_aload_n C dX12_comes_118 rfl 0 rfl (gM_X12_44 C u_5_124 dX12_comes_119 (x_iload_n C dX12_comes_122 rfl 2 rfl (x_iload_n C dX12_comes_123 rfl 1 rfl (sM_27 C g124 dX12_comes_124 (x_vret E h dX12_comes_125)))))
    · have h := ite_t h c
      obtain ⟨g124, h⟩ := G_some h
      exact x_aload_n C dX12_comes_103 rfl 0 rfl (gM_X12_43 C u_5_123 dX12_comes_104 (x_istore_n C dX12_comes_107 rfl (by decide) rfl (x_aload_n C dX12_comes_108 rfl 1 rfl (x_dup C dX12_comes_109 rfl (gM_X12_43 C u_5_123 dX12_comes_110 (x_iconst C dX12_comes_113 kc_1 (x_iadd C dX12_comes_114 (pM_X12_43 C u_5_123 dX12_comes_115 (x_aload_n C dX12_comes_118 rfl 1 rfl (gM_X12_44 C u_5_124 dX12_comes_119 (x_iload_n C dX12_comes_122 rfl 0 rfl (x_iload_n C dX12_comes_123 rfl 2 rfl (sM_27 C g124 dX12_comes_124 (x_vret E h dX12_comes_125))))))))))))))
  · have h := ite_t h c
    refine x_iload_n C dX12_comes_51 rfl 2 rfl (x_iconst C dX12_comes_52 kc_m1 (x_icmp_ne C (tgt := 57) dX12_comes_53 (by decide) (fun c => ?_) (fun c => ?_)))
    · have h := ite_f h c
      exact x_aload_n C dX12_comes_57 rfl 0 rfl (x_dup C dX12_comes_58 rfl (gM_X12_43 C u_5_123 dX12_comes_59 (x_iconst C dX12_comes_62 kc_1 (x_isub C dX12_comes_63 (pM_X12_43 C u_5_123 dX12_comes_64 (x_iload_n C dX12_comes_67 rfl 2 rfl (x_istore_n C dX12_comes_68 rfl (by decide) rfl (x_perm [1, 0] rfl (w_m_comes_h69 C E FU _ _ h)))))))))
    · have h := ite_t h c
      exact x_vret E h dX12_comes_56
set_option maxHeartbeats 4000000 in
theorem w_m_comes_j35 {z : ZT} {ad : AD} {ek : EK} {lh : Launch} {Dh : va_G} {S' : ST} (C : CX z ad ek cX12_comes RX12 lh Dh 1 4) (E : EV z (cM ad) cX12_comes S') {Kb : ST → Int32 → Int32 → Int32 → Option ST} (hKb : ∀ (S : ST) (l1 : Int32) (l2 : Int32) (l3 : Int32) , Kb S l1 l2 l3 = some S' → XW z (cM ad) 4 [(0, .ref (ad.1 0)), (1, .int l1), (2, .int l2), (3, .int l3)] [] S) {K41 : ST → Int32 → Int32 → Option ST} (hK41 : ∀ (S : ST) (l1 : Int32) (l2 : Int32) , K41 S l1 l2 = some S' → XW z (cM ad) 41 [(0, .ref (ad.1 0)), (1, .int l1), (2, .int l2)] [] S) {S : ST} {l1 : Int32} {l2 : Int32} {l3 : Int32} (h : m_comes_j35 Kb K41 S l1 l2 l3 = some S') : XW z (cM ad) 35 [(0, .ref (ad.1 0)), (1, .int l1), (2, .int l2), (3, .int l3)] [] S := by
  unfold m_comes_j35 at h
  exact x_iinc C dX12_comes_35 3 rfl ki_1 (by decide) rfl (x_goto C (tgt := 4) dX12_comes_38 (by decide) (x_perm [1, 2, 3, 0] rfl (hKb _ _ _ _ h)))
set_option maxHeartbeats 4000000 in
theorem w_m_comes_h4 {z : ZT} {ad : AD} {ek : EK} {lh : Launch} {Dh : va_G} {S' : ST} (C : CX z ad ek cX12_comes RX12 lh Dh 1 4) (E : EV z (cM ad) cX12_comes S') {K41 : ST → Int32 → Int32 → Option ST} (hK41 : ∀ (S : ST) (l1 : Int32) (l2 : Int32) , K41 S l1 l2 = some S' → XW z (cM ad) 41 [(0, .ref (ad.1 0)), (1, .int l1), (2, .int l2)] [] S) : ∀ (n : Nat) (S : ST) (l1 : Int32) (l2 : Int32) (l3 : Int32), m_comes_h4 K41 n S l1 l2 l3 = some S' → XW z (cM ad) 4 [(0, .ref (ad.1 0)), (1, .int l1), (2, .int l2), (3, .int l3)] [] S := by
  intro n
  induction n with
  | zero => intro S l1 l2 l3 h; cases h
  | succ n ih =>
    intro S l1 l2 l3 h
    have hKb := ih
    refine x_iload_n C dX12_comes_4 rfl 3 rfl (x_aload_n C dX12_comes_5 rfl 0 rfl (gM_X12_43 C u_5_123 dX12_comes_6 (x_icmp_ge C (tgt := 41) dX12_comes_9 (by decide) (fun c => ?_) (fun c => ?_))))
    · have h := ite_t h c
      exact x_perm [0, 1, 2] rfl (hK41 _ _ _ h)
    · have h := ite_f h c
      obtain ⟨g21, h⟩ := G_some h
      obtain ⟨g22, h⟩ := G_some h
      obtain ⟨g28, h⟩ := G_some h
      refine x_aload_n C dX12_comes_12 rfl 0 rfl (gM_X12_22 C u_5_102 dX12_comes_13 (x_aload_n C dX12_comes_16 rfl 0 rfl (gM_X12_44 C u_5_124 dX12_comes_17 (x_iload_n C dX12_comes_20 rfl 3 rfl (aM_27 C g21 dX12_comes_21 (aM_11 C g22 dX12_comes_22 (x_aload_n C dX12_comes_23 rfl 0 rfl (gM_X12_22 C u_5_102 dX12_comes_24 (x_iload_n C dX12_comes_27 rfl 1 rfl (aM_11 C g28 dX12_comes_28 (x_lcmp C dX12_comes_29 (x_if_ne C (tgt := 35) dX12_comes_30 (by decide) (fun c => ?_) (fun c => ?_)))))))))))))
      · have h := ite_f h c
        exact w_m_comes_j35 C E hKb hK41 h
      · have h := ite_t h c
        exact x_iload_n C dX12_comes_33 rfl 3 rfl (x_istore_n C dX12_comes_34 rfl (by decide) rfl (x_perm [1, 2, 0, 3] rfl (w_m_comes_j35 C E hKb hK41 h)))
set_option maxHeartbeats 4000000 in
theorem c_m_comes {ad : AD} {ek : EK} {lh : Launch} {Dh : va_G} {S' : ST}  {S : ST} {l1 : Int32} (h : m_comes S l1 = some S') : MXv lh Dh ad ek (cM ad) yX12_comes cX12_comes 4 none 1 [.ref (ad.1 0), .int l1] S S' := by
  refine mxv_of (by decide) (Nat.le_of_ble_eq_true rfl) (fun z C E => ?_)
  unfold m_comes at h
  exact x_iconst C dX12_comes_0 kc_m1 (x_istore_n C dX12_comes_1 rfl (by decide) rfl (x_iconst C dX12_comes_2 kc_0 (x_istore_n C dX12_comes_3 rfl (by decide) rfl (x_perm [2, 3, 1, 0] rfl (w_m_comes_h4 C E (fun _ _ _ h => w_m_comes_j41 C E  h) FU _ _ _ _ h)))))
set_option maxHeartbeats 4000000 in
theorem c_m_count {ad : AD} {ek : EK} {lh : Launch} {Dh : va_G} {r : Int32} {S' : ST}  {S : ST} {l1 : Int32} (h : m_count S l1 = some (r, S')) : MXi lh Dh ad ek (cM ad) yX12_count cX12_count 2 (some .int) 1 [.ref (ad.1 0), .int l1] S r S' := by
  refine mxi_of (by decide) (Nat.le_of_ble_eq_true rfl) (fun z C E => ?_)
  unfold m_count at h
  refine x_iload_n C dX12_count_0 rfl 1 rfl (?_)
  refine x_case 0 (fun c0 => ?_) (fun c0 => ?_)
  · have h := ite_t h c0
    refine x_table C (tgt := 40) dX12_count_1 (by decide) (by rw [c0]; decide) ?_
    exact x_aload_n C dX12_count_40 rfl 0 rfl (gM_X12_45 C u_5_125 dX12_count_41 (x_iret E h retI dX12_count_44))
  · have h := ite_f h c0
    refine x_case 1 (fun c1 => ?_) (fun c1 => ?_)
    · have h := ite_t h c1
      refine x_table C (tgt := 45) dX12_count_1 (by decide) (by rw [c1]; decide) ?_
      exact x_aload_n C dX12_count_45 rfl 0 rfl (gM_X12_18 C u_5_98 dX12_count_46 (x_iret E h retI dX12_count_49))
    · have h := ite_f h c1
      refine x_case 2 (fun c2 => ?_) (fun c2 => ?_)
      · have h := ite_t h c2
        refine x_table C (tgt := 50) dX12_count_1 (by decide) (by rw [c2]; decide) ?_
        exact x_aload_n C dX12_count_50 rfl 0 rfl (gM_X12_2 C u_5_82 dX12_count_51 (x_iret E h retI dX12_count_54))
      · have h := ite_f h c2
        refine x_case 3 (fun c3 => ?_) (fun c3 => ?_)
        · have h := ite_t h c3
          refine x_table C (tgt := 55) dX12_count_1 (by decide) (by rw [c3]; decide) ?_
          obtain ⟨g60, h⟩ := G_some h
          exact x_aload_n C dX12_count_55 rfl 0 rfl (gM_X12_63 C u_5_143 dX12_count_56 (x_iconst C dX12_count_59 kc_0 (aM_38 C g60 dX12_count_60 (x_iret E h retI dX12_count_61))))
        · have h := ite_f h c3
          refine x_case 4 (fun c4 => ?_) (fun c4 => ?_)
          · have h := ite_t h c4
            refine x_table C (tgt := 62) dX12_count_1 (by decide) (by rw [c4]; decide) ?_
            obtain ⟨g67, h⟩ := G_some h
            exact x_aload_n C dX12_count_62 rfl 0 rfl (gM_X12_63 C u_5_143 dX12_count_63 (x_iconst C dX12_count_66 kc_1 (aM_38 C g67 dX12_count_67 (x_iret E h retI dX12_count_68))))
          · have h := ite_f h c4
            refine x_case 5 (fun c5 => ?_) (fun c5 => ?_)
            · have h := ite_t h c5
              refine x_table C (tgt := 69) dX12_count_1 (by decide) (by rw [c5]; decide) ?_
              obtain ⟨g74, h⟩ := G_some h
              exact x_aload_n C dX12_count_69 rfl 0 rfl (gM_X12_63 C u_5_143 dX12_count_70 (x_iconst C dX12_count_73 kc_2 (aM_38 C g74 dX12_count_74 (x_iret E h retI dX12_count_75))))
            · have h := ite_f h c5
              refine x_table C (tgt := 76) dX12_count_1 (by decide) (by rw [tsw_d [0, 1, 2, 3, 4, 5] (by intro k hk; simp only [List.mem_cons, List.not_mem_nil, or_false] at hk; rcases hk with rfl | rfl | rfl | rfl | rfl | rfl <;> assumption) (by decide)]; decide) ?_
              exact x_iconst C dX12_count_76 kc_m1 (x_iret E h retI dX12_count_77)
set_option maxHeartbeats 4000000 in
theorem c_m_emit {ad : AD} {ek : EK} {lh : Launch} {Dh : va_G} {S' : ST}  {S : ST} {l1 : Int32} {l2 : Int32} (h : m_emit S l1 l2 = some S') : MXv lh Dh ad ek (cM ad) yX12_emit cX12_emit 3 none 1 [.ref (ad.1 0), .int l1, .int l2] S S' := by
  refine mxv_of (by decide) (Nat.le_of_ble_eq_true rfl) (fun z C E => ?_)
  unfold m_emit at h
  obtain ⟨g9, h⟩ := G_some h
  obtain ⟨g19, h⟩ := G_some h
  exact x_aload_n C dX12_emit_0 rfl 0 rfl (gM_X12_35 C u_5_115 dX12_emit_1 (x_aload_n C dX12_emit_4 rfl 0 rfl (gM_X12_34 C u_5_114 dX12_emit_5 (x_iload_n C dX12_emit_8 rfl 1 rfl (sM_22 C g9 dX12_emit_9 (x_aload_n C dX12_emit_10 rfl 0 rfl (gM_X12_36 C u_5_116 dX12_emit_11 (x_aload_n C dX12_emit_14 rfl 0 rfl (gM_X12_34 C u_5_114 dX12_emit_15 (x_iload_n C dX12_emit_18 rfl 2 rfl (sM_23 C g19 dX12_emit_19 (x_aload_n C dX12_emit_20 rfl 0 rfl (x_dup C dX12_emit_21 rfl (gM_X12_34 C u_5_114 dX12_emit_22 (x_iconst C dX12_emit_25 kc_1 (x_iadd C dX12_emit_26 (pM_X12_34 C u_5_114 dX12_emit_27 (x_vret E h dX12_emit_30))))))))))))))))))
set_option maxHeartbeats 4000000 in
theorem c_m_fail {ad : AD} {ek : EK} {lh : Launch} {Dh : va_G} {S' : ST}  {S : ST} {l1 : Int32} (h : m_fail S l1 = some S') : MXv lh Dh ad ek (cM ad) yX12_fail cX12_fail 2 none 1 [.ref (ad.1 0), .int l1] S S' := by
  refine mxv_of (by decide) (Nat.le_of_ble_eq_true rfl) (fun z C E => ?_)
  unfold m_fail at h
  refine x_aload_n C dX12_fail_0 rfl 0 rfl (gM_X12_13 C u_5_93 dX12_fail_1 (x_if_le C (tgt := 8) dX12_fail_4 (by decide) (fun c => ?_) (fun c => ?_)))
  · have h := ite_t h c
    obtain ⟨g22, h⟩ := G_some h
    exact x_aload_n C dX12_fail_8 rfl 0 rfl (x_iload_n C dX12_fail_9 rfl 1 rfl (pM_X12_13 C u_5_93 dX12_fail_10 (x_aload_n C dX12_fail_13 rfl 0 rfl (x_aload_n C dX12_fail_14 rfl 0 rfl (gM_X12_6 C u_5_86 dX12_fail_15 (x_aload_n C dX12_fail_18 rfl 0 rfl (gM_X12_11 C u_5_91 dX12_fail_19 (aM_4 C g22 dX12_fail_22 (pM_X12_14 C u_5_94 dX12_fail_23 (x_vret E h dX12_fail_26))))))))))
  · have h := ite_f h c
    exact x_vret E h dX12_fail_7
set_option maxHeartbeats 4000000 in
theorem w_m_has_j57 {z : ZT} {ad : AD} {ek : EK} {lh : Launch} {Dh : va_G} {r : Int32} {S' : ST} (C : CX z ad ek cX12_has RX12 lh Dh 1 6) (E : EI z (cM ad) cX12_has (some .boolean) r S') {Kb : ST → Int32 → Int32 → Int32 → Int32 → Int32 → Option (Int32 × ST)} (hKb : ∀ (S : ST) (l1 : Int32) (l2 : Int32) (l3 : Int32) (l4 : Int32) (l5 : Int32) , Kb S l1 l2 l3 l4 l5 = some (r, S') → XW z (cM ad) 3 [(0, .ref (ad.1 0)), (1, .int l1), (2, .int l2), (3, .int l3), (4, .int l4), (5, .int l5)] [] S) {S : ST} {l1 : Int32} {l2 : Int32} {l3 : Int32} {l4 : Int32} {l5 : Int32} (h : m_has_j57 Kb S l1 l2 l3 l4 l5 = some (r, S')) : XW z (cM ad) 57 [(0, .ref (ad.1 0)), (1, .int l1), (2, .int l2), (3, .int l3), (4, .int l4), (5, .int l5)] [] S := by
  unfold m_has_j57 at h
  exact x_iinc C dX12_has_57 5 rfl ki_1 (by decide) rfl (x_goto C (tgt := 3) dX12_has_60 (by decide) (x_perm [1, 2, 3, 4, 5, 0] rfl (hKb _ _ _ _ _ _ h)))
set_option maxHeartbeats 4000000 in
theorem w_m_has_h3 {z : ZT} {ad : AD} {ek : EK} {lh : Launch} {Dh : va_G} {r : Int32} {S' : ST} (C : CX z ad ek cX12_has RX12 lh Dh 1 6) (E : EI z (cM ad) cX12_has (some .boolean) r S') : ∀ (n : Nat) (S : ST) (l1 : Int32) (l2 : Int32) (l3 : Int32) (l4 : Int32) (l5 : Int32), m_has_h3 n S l1 l2 l3 l4 l5 = some (r, S') → XW z (cM ad) 3 [(0, .ref (ad.1 0)), (1, .int l1), (2, .int l2), (3, .int l3), (4, .int l4), (5, .int l5)] [] S := by
  intro n
  induction n with
  | zero => intro S l1 l2 l3 l4 l5 h; cases h
  | succ n ih =>
    intro S l1 l2 l3 l4 l5 h
    have hKb := ih
    refine x_iload C dX12_has_3 5 rfl (x_iload C dX12_has_5 4 rfl (x_icmp_ge C (tgt := 63) dX12_has_7 (by decide) (fun c => ?_) (fun c => ?_)))
    · have h := ite_t h c
      exact (by
        exact x_iconst C dX12_has_63 kc_0 (x_iret E h (retB rfl) dX12_has_64))
    · have h := ite_f h c
      obtain ⟨g16, h⟩ := G_some h
      refine x_aload_n C dX12_has_10 rfl 0 rfl (gM_X12_46 C u_5_126 dX12_has_11 (x_iload C dX12_has_14 5 rfl (aM_28 C g16 dX12_has_16 (x_bipush C dX12_has_17 kb_9 (x_icmp_ne C (tgt := 57) dX12_has_19 (by decide) (fun c => ?_) (fun c => ?_))))))
      · have h := ite_f h c
        exact w_m_has_j57 C E hKb h
      · have h := ite_t h c
        obtain ⟨g28, h⟩ := G_some h
        refine x_aload_n C dX12_has_22 rfl 0 rfl (gM_X12_48 C u_5_128 dX12_has_23 (x_iload C dX12_has_26 5 rfl (aM_30 C g28 dX12_has_28 (x_iload_n C dX12_has_29 rfl 1 rfl (x_icmp_ne C (tgt := 57) dX12_has_30 (by decide) (fun c => ?_) (fun c => ?_))))))
        · have h := ite_f h c
          exact w_m_has_j57 C E hKb h
        · have h := ite_t h c
          obtain ⟨g39, h⟩ := G_some h
          refine x_aload_n C dX12_has_33 rfl 0 rfl (gM_X12_49 C u_5_129 dX12_has_34 (x_iload C dX12_has_37 5 rfl (aM_31 C g39 dX12_has_39 (x_iload_n C dX12_has_40 rfl 2 rfl (x_icmp_ne C (tgt := 57) dX12_has_41 (by decide) (fun c => ?_) (fun c => ?_))))))
          · have h := ite_f h c
            exact w_m_has_j57 C E hKb h
          · have h := ite_t h c
            obtain ⟨g50, h⟩ := G_some h
            refine x_aload_n C dX12_has_44 rfl 0 rfl (gM_X12_50 C u_5_130 dX12_has_45 (x_iload C dX12_has_48 5 rfl (aM_32 C g50 dX12_has_50 (x_iload_n C dX12_has_51 rfl 3 rfl (x_icmp_ne C (tgt := 57) dX12_has_52 (by decide) (fun c => ?_) (fun c => ?_))))))
            · have h := ite_f h c
              exact w_m_has_j57 C E hKb h
            · have h := ite_t h c
              exact (by
                exact x_iconst C dX12_has_55 kc_1 (x_iret E h (retB rfl) dX12_has_56))
set_option maxHeartbeats 4000000 in
theorem c_m_has {ad : AD} {ek : EK} {lh : Launch} {Dh : va_G} {r : Int32} {S' : ST}  {S : ST} {l1 : Int32} {l2 : Int32} {l3 : Int32} {l4 : Int32} (h : m_has S l1 l2 l3 l4 = some (r, S')) : MXi lh Dh ad ek (cM ad) yX12_has cX12_has 6 (some .boolean) 1 [.ref (ad.1 0), .int l1, .int l2, .int l3, .int l4] S r S' := by
  refine mxi_of (by decide) (Nat.le_of_ble_eq_true rfl) (fun z C E => ?_)
  unfold m_has at h
  exact x_iconst C dX12_has_0 kc_0 (x_istore C dX12_has_1 (by decide) rfl (x_perm [1, 2, 3, 4, 5, 0] rfl (w_m_has_h3 C E FU _ _ _ _ _ _ h)))
set_option maxHeartbeats 4000000 in
theorem c_m_in {ad : AD} {ek : EK} {lh : Launch} {Dh : va_G} {w : ST → va_W} {S0 : ST} {r : Int32}  {l0 : Int32} {l1 : Int32} {l2 : Int32} (h : m_in l0 l1 l2 = some r) : MXi lh Dh ad ek w yX12_in cX12_in 3 (some .boolean) 1 [.int l0, .int l1, .int l2] S0 r S0 := by
  refine mxi_of (by decide) (Nat.le_of_ble_eq_true rfl) (fun z C E => ?_)
  unfold m_in at h
  refine x_iload_n C dX12_in_0 rfl 0 rfl (x_iload_n C dX12_in_1 rfl 1 rfl (x_icmp_lt C (tgt := 14) dX12_in_2 (by decide) (fun c => ?_) (fun c => ?_)))
  · have h := ite_t h c
    exact x_iconst C dX12_in_14 kc_0 (x_iret0 E h (retB rfl) dX12_in_15)
  · have h := ite_f h c
    refine x_iload_n C dX12_in_5 rfl 0 rfl (x_iload_n C dX12_in_6 rfl 2 rfl (x_icmp_gt C (tgt := 14) dX12_in_7 (by decide) (fun c => ?_) (fun c => ?_)))
    · have h := ite_t h c
      exact x_iconst C dX12_in_14 kc_0 (x_iret0 E h (retB rfl) dX12_in_15)
    · have h := ite_f h c
      exact x_iconst C dX12_in_10 kc_1 (x_goto C (tgt := 15) dX12_in_11 (by decide) (x_iret0 E h (retB rfl) dX12_in_15))
set_option maxHeartbeats 4000000 in
theorem c_m_is {ad : AD} {ek : EK} {lh : Launch} {Dh : va_G} {r : Int32} {S' : ST}  {S : ST} {l1 : Int32} (h : m_is S l1 = some (r, S')) : MXi lh Dh ad ek (cM ad) yX12_is cX12_is 2 (some .boolean) 1 [.ref (ad.1 0), .int l1] S r S' := by
  refine mxi_of (by decide) (Nat.le_of_ble_eq_true rfl) (fun z C E => ?_)
  unfold m_is at h
  refine x_aload_n C dX12_is_0 rfl 0 rfl (gM_X12_13 C u_5_93 dX12_is_1 (x_if_ne C (tgt := 24) dX12_is_4 (by decide) (fun c => ?_) (fun c => ?_)))
  · have h := ite_f h c
    exact x_iconst C dX12_is_24 kc_0 (x_iret E h (retB rfl) dX12_is_25)
  · have h := ite_t h c
    obtain ⟨g15, h⟩ := G_some h
    refine x_aload_n C dX12_is_7 rfl 0 rfl (gM_X12_5 C u_5_85 dX12_is_8 (x_aload_n C dX12_is_11 rfl 0 rfl (gM_X12_11 C u_5_91 dX12_is_12 (aM_3 C g15 dX12_is_15 (x_iload_n C dX12_is_16 rfl 1 rfl (x_icmp_ne C (tgt := 24) dX12_is_17 (by decide) (fun c => ?_) (fun c => ?_)))))))
    · have h := ite_f h c
      exact x_iconst C dX12_is_24 kc_0 (x_iret E h (retB rfl) dX12_is_25)
    · have h := ite_t h c
      exact x_iconst C dX12_is_20 kc_1 (x_goto C (tgt := 25) dX12_is_21 (by decide) (x_iret E h (retB rfl) dX12_is_25))
set_option maxHeartbeats 4000000 in
theorem c_m_isDigit {ad : AD} {ek : EK} {lh : Launch} {Dh : va_G} {w : ST → va_W} {S0 : ST} {r : Int32}  {l0 : Int32} (h : m_isDigit l0 = some r) : MXi lh Dh ad ek w yX12_isDigit cX12_isDigit 1 (some .boolean) 1 [.int l0] S0 r S0 := by
  refine mxi_of (by decide) (Nat.le_of_ble_eq_true rfl) (fun z C E => ?_)
  unfold m_isDigit at h
  refine x_iload_n C dX12_isDigit_0 rfl 0 rfl (x_bipush C dX12_isDigit_1 kb_48 (x_icmp_lt C (tgt := 16) dX12_isDigit_3 (by decide) (fun c => ?_) (fun c => ?_)))
  · have h := ite_t h c
    exact x_iconst C dX12_isDigit_16 kc_0 (x_iret0 E h (retB rfl) dX12_isDigit_17)
  · have h := ite_f h c
    refine x_iload_n C dX12_isDigit_6 rfl 0 rfl (x_bipush C dX12_isDigit_7 kb_57 (x_icmp_gt C (tgt := 16) dX12_isDigit_9 (by decide) (fun c => ?_) (fun c => ?_)))
    · have h := ite_t h c
      exact x_iconst C dX12_isDigit_16 kc_0 (x_iret0 E h (retB rfl) dX12_isDigit_17)
    · have h := ite_f h c
      exact x_iconst C dX12_isDigit_12 kc_1 (x_goto C (tgt := 17) dX12_isDigit_13 (by decide) (x_iret0 E h (retB rfl) dX12_isDigit_17))
set_option maxHeartbeats 4000000 in
theorem c_m_isKnown {ad : AD} {ek : EK} {lh : Launch} {Dh : va_G} {r : Int32} {S' : ST}  {S : ST} {l1 : Int32} (h : m_isKnown S l1 = some (r, S')) : MXi lh Dh ad ek (cM ad) yX12_isKnown cX12_isKnown 2 (some .boolean) 1 [.ref (ad.1 0), .int l1] S r S' := by
  refine mxi_of (by decide) (Nat.le_of_ble_eq_true rfl) (fun z C E => ?_)
  unfold m_isKnown at h
  refine x_iload_n C dX12_isKnown_0 rfl 1 rfl (x_if_lt C (tgt := 16) dX12_isKnown_1 (by decide) (fun c => ?_) (fun c => ?_))
  · have h := ite_t h c
    exact x_iconst C dX12_isKnown_16 kc_0 (x_iret E h (retB rfl) dX12_isKnown_17)
  · have h := ite_f h c
    refine x_iload_n C dX12_isKnown_4 rfl 1 rfl (x_aload_n C dX12_isKnown_5 rfl 0 rfl (gM_X12_45 C u_5_125 dX12_isKnown_6 (x_icmp_gt C (tgt := 16) dX12_isKnown_9 (by decide) (fun c => ?_) (fun c => ?_))))
    · have h := ite_t h c
      exact x_iconst C dX12_isKnown_16 kc_0 (x_iret E h (retB rfl) dX12_isKnown_17)
    · have h := ite_f h c
      exact x_iconst C dX12_isKnown_12 kc_1 (x_goto C (tgt := 17) dX12_isKnown_13 (by decide) (x_iret E h (retB rfl) dX12_isKnown_17))
set_option maxHeartbeats 4000000 in
theorem c_m_isLetter {ad : AD} {ek : EK} {lh : Launch} {Dh : va_G} {w : ST → va_W} {S0 : ST} {r : Int32}  {l0 : Int32} (h : m_isLetter l0 = some r) : MXi lh Dh ad ek w yX12_isLetter cX12_isLetter 1 (some .boolean) 1 [.int l0] S0 r S0 := by
  refine mxi_of (by decide) (Nat.le_of_ble_eq_true rfl) (fun z C E => ?_)
  unfold m_isLetter at h
  refine x_iload_n C dX12_isLetter_0 rfl 0 rfl (x_bipush C dX12_isLetter_1 kb_97 (x_icmp_lt C (tgt := 16) dX12_isLetter_3 (by decide) (fun c => ?_) (fun c => ?_)))
  · have h := ite_t h c
    exact x_iconst C dX12_isLetter_16 kc_0 (x_iret0 E h (retB rfl) dX12_isLetter_17)
  · have h := ite_f h c
    refine x_iload_n C dX12_isLetter_6 rfl 0 rfl (x_bipush C dX12_isLetter_7 kb_122 (x_icmp_gt C (tgt := 16) dX12_isLetter_9 (by decide) (fun c => ?_) (fun c => ?_)))
    · have h := ite_t h c
      exact x_iconst C dX12_isLetter_16 kc_0 (x_iret0 E h (retB rfl) dX12_isLetter_17)
    · have h := ite_f h c
      exact x_iconst C dX12_isLetter_12 kc_1 (x_goto C (tgt := 17) dX12_isLetter_13 (by decide) (x_iret0 E h (retB rfl) dX12_isLetter_17))
set_option maxHeartbeats 4000000 in
theorem c_m_isLine {ad : AD} {ek : EK} {lh : Launch} {Dh : va_G} {r : Int32} {S' : ST}  {S : ST} {l1 : Int32} {l2 : Int32} (h : m_isLine S l1 l2 = some (r, S')) : MXi lh Dh ad ek (cM ad) yX12_isLine cX12_isLine 3 (some .boolean) 1 [.ref (ad.1 0), .int l1, .int l2] S r S' := by
  refine mxi_of (by decide) (Nat.le_of_ble_eq_true rfl) (fun z C E => ?_)
  unfold m_isLine at h
  refine x_iload_n C dX12_isLine_0 rfl 1 rfl (x_if_lt C (tgt := 22) dX12_isLine_1 (by decide) (fun c => ?_) (fun c => ?_))
  · have h := ite_t h c
    exact x_iconst C dX12_isLine_22 kc_0 (x_iret E h (retB rfl) dX12_isLine_23)
  · have h := ite_f h c
    refine x_iload_n C dX12_isLine_4 rfl 1 rfl (x_iload_n C dX12_isLine_5 rfl 2 rfl (x_icmp_ge C (tgt := 22) dX12_isLine_6 (by decide) (fun c => ?_) (fun c => ?_)))
    · have h := ite_t h c
      exact x_iconst C dX12_isLine_22 kc_0 (x_iret E h (retB rfl) dX12_isLine_23)
    · have h := ite_f h c
      obtain ⟨g14, h⟩ := G_some h
      refine x_aload_n C dX12_isLine_9 rfl 0 rfl (gM_X12_46 C u_5_126 dX12_isLine_10 (x_iload_n C dX12_isLine_13 rfl 1 rfl (aM_28 C g14 dX12_isLine_14 (x_if_ne C (tgt := 22) dX12_isLine_15 (by decide) (fun c => ?_) (fun c => ?_)))))
      · have h := ite_f h c
        exact x_iconst C dX12_isLine_22 kc_0 (x_iret E h (retB rfl) dX12_isLine_23)
      · have h := ite_t h c
        exact x_iconst C dX12_isLine_18 kc_1 (x_goto C (tgt := 23) dX12_isLine_19 (by decide) (x_iret E h (retB rfl) dX12_isLine_23))
set_option maxHeartbeats 4000000 in
theorem w_m_isStruckBy_j47 {z : ZT} {ad : AD} {ek : EK} {lh : Launch} {Dh : va_G} {r : Int32} {S' : ST} (C : CX z ad ek cX12_isStruckBy RX12 lh Dh 1 5) (E : EI z (cM ad) cX12_isStruckBy (some .boolean) r S') {Kb : ST → Int32 → Int32 → Int32 → Int32 → Option (Int32 × ST)} (hKb : ∀ (S : ST) (l1 : Int32) (l2 : Int32) (l3 : Int32) (l4 : Int32) , Kb S l1 l2 l3 l4 = some (r, S') → XW z (cM ad) 5 [(0, .ref (ad.1 0)), (1, .int l1), (2, .int l2), (3, .int l3), (4, .int l4)] [] S) {S : ST} {l1 : Int32} {l2 : Int32} {l3 : Int32} {l4 : Int32} (h : m_isStruckBy_j47 Kb S l1 l2 l3 l4 = some (r, S')) : XW z (cM ad) 47 [(0, .ref (ad.1 0)), (1, .int l1), (2, .int l2), (3, .int l3), (4, .int l4)] [] S := by
  unfold m_isStruckBy_j47 at h
  exact x_iinc C dX12_isStruckBy_47 4 rfl ki_1 (by decide) rfl (x_goto C (tgt := 5) dX12_isStruckBy_50 (by decide) (x_perm [1, 2, 3, 4, 0] rfl (hKb _ _ _ _ _ h)))
set_option maxHeartbeats 4000000 in
theorem w_m_isStruckBy_h5 {z : ZT} {ad : AD} {ek : EK} {lh : Launch} {Dh : va_G} {r : Int32} {S' : ST} (C : CX z ad ek cX12_isStruckBy RX12 lh Dh 1 5) (E : EI z (cM ad) cX12_isStruckBy (some .boolean) r S') : ∀ (n : Nat) (S : ST) (l1 : Int32) (l2 : Int32) (l3 : Int32) (l4 : Int32), m_isStruckBy_h5 n S l1 l2 l3 l4 = some (r, S') → XW z (cM ad) 5 [(0, .ref (ad.1 0)), (1, .int l1), (2, .int l2), (3, .int l3), (4, .int l4)] [] S := by
  intro n
  induction n with
  | zero => intro S l1 l2 l3 l4 h; cases h
  | succ n ih =>
    intro S l1 l2 l3 l4 h
    have hKb := ih
    refine x_iload C dX12_isStruckBy_5 4 rfl (x_iload_n C dX12_isStruckBy_7 rfl 3 rfl (x_icmp_ge C (tgt := 53) dX12_isStruckBy_8 (by decide) (fun c => ?_) (fun c => ?_)))
    · have h := ite_t h c
      exact (by
        exact x_iconst C dX12_isStruckBy_53 kc_0 (x_iret E h (retB rfl) dX12_isStruckBy_54))
    · have h := ite_f h c
      obtain ⟨g17, h⟩ := G_some h
      refine x_aload_n C dX12_isStruckBy_11 rfl 0 rfl (gM_X12_46 C u_5_126 dX12_isStruckBy_12 (x_iload C dX12_isStruckBy_15 4 rfl (aM_28 C g17 dX12_isStruckBy_17 (x_bipush C dX12_isStruckBy_18 kb_6 (x_icmp_ne C (tgt := 47) dX12_isStruckBy_20 (by decide) (fun c => ?_) (fun c => ?_))))))
      · have h := ite_f h c
        exact w_m_isStruckBy_j47 C E hKb h
      · have h := ite_t h c
        obtain ⟨g29, h⟩ := G_some h
        refine x_aload_n C dX12_isStruckBy_23 rfl 0 rfl (gM_X12_48 C u_5_128 dX12_isStruckBy_24 (x_iload C dX12_isStruckBy_27 4 rfl (aM_30 C g29 dX12_isStruckBy_29 (x_iload_n C dX12_isStruckBy_30 rfl 1 rfl (x_icmp_ne C (tgt := 47) dX12_isStruckBy_31 (by decide) (fun c => ?_) (fun c => ?_))))))
        · have h := ite_f h c
          exact w_m_isStruckBy_j47 C E hKb h
        · have h := ite_t h c
          obtain ⟨g40, h⟩ := G_some h
          refine x_aload_n C dX12_isStruckBy_34 rfl 0 rfl (gM_X12_47 C u_5_127 dX12_isStruckBy_35 (x_iload C dX12_isStruckBy_38 4 rfl (aM_29 C g40 dX12_isStruckBy_40 (x_iload_n C dX12_isStruckBy_41 rfl 2 rfl (x_icmp_gt C (tgt := 47) dX12_isStruckBy_42 (by decide) (fun c => ?_) (fun c => ?_))))))
          · have h := ite_t h c
            exact w_m_isStruckBy_j47 C E hKb h
          · have h := ite_f h c
            exact (by
              exact x_iconst C dX12_isStruckBy_45 kc_1 (x_iret E h (retB rfl) dX12_isStruckBy_46))
set_option maxHeartbeats 4000000 in
theorem c_m_isStruckBy {ad : AD} {ek : EK} {lh : Launch} {Dh : va_G} {r : Int32} {S' : ST}  {S : ST} {l1 : Int32} {l2 : Int32} {l3 : Int32} (h : m_isStruckBy S l1 l2 l3 = some (r, S')) : MXi lh Dh ad ek (cM ad) yX12_isStruckBy cX12_isStruckBy 5 (some .boolean) 1 [.ref (ad.1 0), .int l1, .int l2, .int l3] S r S' := by
  refine mxi_of (by decide) (Nat.le_of_ble_eq_true rfl) (fun z C E => ?_)
  unfold m_isStruckBy at h
  exact x_iload_n C dX12_isStruckBy_0 rfl 1 rfl (x_iconst C dX12_isStruckBy_1 kc_1 (x_iadd C dX12_isStruckBy_2 (x_istore C dX12_isStruckBy_3 (by decide) rfl (x_perm [1, 2, 3, 4, 0] rfl (w_m_isStruckBy_h5 C E FU _ _ _ _ _ h)))))
set_option maxHeartbeats 4000000 in
theorem w_m_joins_j45 {z : ZT} {ad : AD} {ek : EK} {lh : Launch} {Dh : va_G} {r : Int32} {S' : ST} (C : CX z ad ek cX12_joins RX12 lh Dh 1 4) (E : EI z (cM ad) cX12_joins (some .boolean) r S') {S : ST} {l1 : Int32} {l2 : Int32} (h : m_joins_j45 S l1 l2 = some (r, S')) : XW z (cM ad) 45 [(1, .int l1), (2, .int l2)] [] S := by
  unfold m_joins_j45 at h
  refine x_iload_n C dX12_joins_45 rfl 1 rfl (x_iload_n C dX12_joins_46 rfl 0 rfl (x_iconst C dX12_joins_47 kc_3 (x_idiv C dX12_joins_48 (by decide) (x_icmp_gt C (tgt := 56) dX12_joins_49 (by decide) (fun c => ?_) (fun c => ?_)))))
  · have h := ite_t h c
    exact x_iconst C dX12_joins_56 kc_0 (x_iret E h (retB rfl) dX12_joins_57)
  · have h := ite_f h c
    exact x_iconst C dX12_joins_52 kc_1 (x_goto C (tgt := 57) dX12_joins_53 (by decide) (x_iret E h (retB rfl) dX12_joins_57))
set_option maxHeartbeats 4000000 in
theorem w_m_joins_j39 {z : ZT} {ad : AD} {ek : EK} {lh : Launch} {Dh : va_G} {r : Int32} {S' : ST} (C : CX z ad ek cX12_joins RX12 lh Dh 1 4) (E : EI z (cM ad) cX12_joins (some .boolean) r S') {Kb : ST → Int32 → Int32 → Int32 → Option (Int32 × ST)} (hKb : ∀ (S : ST) (l1 : Int32) (l2 : Int32) (l3 : Int32) , Kb S l1 l2 l3 = some (r, S') → XW z (cM ad) 4 [(0, .ref (ad.1 0)), (1, .int l1), (2, .int l2), (3, .int l3)] [] S) {K45 : ST → Int32 → Int32 → Option (Int32 × ST)} (hK45 : ∀ (S : ST) (l1 : Int32) (l2 : Int32) , K45 S l1 l2 = some (r, S') → XW z (cM ad) 45 [(1, .int l1), (2, .int l2)] [] S) {S : ST} {l1 : Int32} {l2 : Int32} {l3 : Int32} (h : m_joins_j39 Kb K45 S l1 l2 l3 = some (r, S')) : XW z (cM ad) 39 [(0, .ref (ad.1 0)), (1, .int l1), (2, .int l2), (3, .int l3)] [] S := by
  unfold m_joins_j39 at h
  exact x_iinc C dX12_joins_39 3 rfl ki_1 (by decide) rfl (x_goto C (tgt := 4) dX12_joins_42 (by decide) (x_perm [1, 2, 3, 0] rfl (hKb _ _ _ _ h)))
set_option maxHeartbeats 4000000 in
theorem w_m_joins_h4 {z : ZT} {ad : AD} {ek : EK} {lh : Launch} {Dh : va_G} {r : Int32} {S' : ST} (C : CX z ad ek cX12_joins RX12 lh Dh 1 4) (E : EI z (cM ad) cX12_joins (some .boolean) r S') {K45 : ST → Int32 → Int32 → Option (Int32 × ST)} (hK45 : ∀ (S : ST) (l1 : Int32) (l2 : Int32) , K45 S l1 l2 = some (r, S') → XW z (cM ad) 45 [(1, .int l1), (2, .int l2)] [] S) : ∀ (n : Nat) (S : ST) (l1 : Int32) (l2 : Int32) (l3 : Int32), m_joins_h4 K45 n S l1 l2 l3 = some (r, S') → XW z (cM ad) 4 [(0, .ref (ad.1 0)), (1, .int l1), (2, .int l2), (3, .int l3)] [] S := by
  intro n
  induction n with
  | zero => intro S l1 l2 l3 h; cases h
  | succ n ih =>
    intro S l1 l2 l3 h
    have hKb := ih
    refine x_iload_n C dX12_joins_4 rfl 3 rfl (x_iload_n C dX12_joins_5 rfl 1 rfl (x_icmp_ge C (tgt := 45) dX12_joins_6 (by decide) (fun c => ?_) (fun c => ?_)))
    · have h := ite_t h c
      exact x_perm [1, 2] rfl (hK45 _ _ _ h)
    · have h := ite_f h c
      obtain ⟨g18, h⟩ := G_some h
      obtain ⟨g23, h⟩ := G_some h
      obtain ⟨g32, h⟩ := G_some h
      refine x_aload_n C dX12_joins_9 rfl 0 rfl (gM_X12_62 C u_5_142 dX12_joins_10 (x_aload_n C dX12_joins_13 rfl 0 rfl (gM_X12_63 C u_5_143 dX12_joins_14 (x_iconst C dX12_joins_17 kc_0 (aM_38 C g18 dX12_joins_18 (x_iload_n C dX12_joins_19 rfl 1 rfl (x_isub C dX12_joins_20 (x_iload_n C dX12_joins_21 rfl 3 rfl (x_iadd C dX12_joins_22 (aM_37 C g23 dX12_joins_23 (x_aload_n C dX12_joins_24 rfl 0 rfl (gM_X12_62 C u_5_142 dX12_joins_25 (x_bipush C dX12_joins_28 kb_12 (x_iload_n C dX12_joins_30 rfl 3 rfl (x_iadd C dX12_joins_31 (aM_37 C g32 dX12_joins_32 (x_icmp_eq C (tgt := 39) dX12_joins_33 (by decide) (fun c => ?_) (fun c => ?_))))))))))))))))))
      · have h := ite_t h c
        exact w_m_joins_j39 C E hKb hK45 h
      · have h := ite_f h c
        exact x_iinc C dX12_joins_36 2 rfl ki_1 (by decide) rfl (x_perm [1, 2, 0, 3] rfl (w_m_joins_j39 C E hKb hK45 h))
set_option maxHeartbeats 4000000 in
theorem c_m_joins {ad : AD} {ek : EK} {lh : Launch} {Dh : va_G} {r : Int32} {S' : ST}  {S : ST} {l1 : Int32} (h : m_joins S l1 = some (r, S')) : MXi lh Dh ad ek (cM ad) yX12_joins cX12_joins 4 (some .boolean) 1 [.ref (ad.1 0), .int l1] S r S' := by
  refine mxi_of (by decide) (Nat.le_of_ble_eq_true rfl) (fun z C E => ?_)
  unfold m_joins at h
  exact x_iconst C dX12_joins_0 kc_0 (x_istore_n C dX12_joins_1 rfl (by decide) rfl (x_iconst C dX12_joins_2 kc_0 (x_istore_n C dX12_joins_3 rfl (by decide) rfl (x_perm [2, 3, 1, 0] rfl (w_m_joins_h4 C E (fun _ _ _ h => w_m_joins_j45 C E  h) FU _ _ _ _ h)))))
set_option maxHeartbeats 4000000 in
theorem w_m_latest_j90 {z : ZT} {ad : AD} {ek : EK} {lh : Launch} {Dh : va_G} {r : Int32} {S' : ST} (C : CX z ad ek cX12_latest RX12 lh Dh 1 7) (E : EI z (cM ad) cX12_latest (some .int) r S') {Kb : ST → Int32 → Int32 → Int32 → Int32 → Int32 → Int32 → Option (Int32 × ST)} (hKb : ∀ (S : ST) (l1 : Int32) (l2 : Int32) (l3 : Int32) (l4 : Int32) (l5 : Int32) (l6 : Int32) , Kb S l1 l2 l3 l4 l5 l6 = some (r, S') → XW z (cM ad) 6 [(0, .ref (ad.1 0)), (1, .int l1), (2, .int l2), (3, .int l3), (4, .int l4), (5, .int l5), (6, .int l6)] [] S) {S : ST} {l1 : Int32} {l2 : Int32} {l3 : Int32} {l4 : Int32} {l5 : Int32} {l6 : Int32} (h : m_latest_j90 Kb S l1 l2 l3 l4 l5 l6 = some (r, S')) : XW z (cM ad) 90 [(0, .ref (ad.1 0)), (1, .int l1), (2, .int l2), (3, .int l3), (4, .int l4), (5, .int l5), (6, .int l6)] [] S := by
  unfold m_latest_j90 at h
  exact x_iinc C dX12_latest_90 6 rfl ki_1 (by decide) rfl (x_goto C (tgt := 6) dX12_latest_93 (by decide) (x_perm [1, 2, 3, 4, 5, 6, 0] rfl (hKb _ _ _ _ _ _ _ h)))
set_option maxHeartbeats 4000000 in
theorem w_m_latest_j86 {z : ZT} {ad : AD} {ek : EK} {lh : Launch} {Dh : va_G} {r : Int32} {S' : ST} (C : CX z ad ek cX12_latest RX12 lh Dh 1 7) (E : EI z (cM ad) cX12_latest (some .int) r S') {Kb : ST → Int32 → Int32 → Int32 → Int32 → Int32 → Int32 → Option (Int32 × ST)} (hKb : ∀ (S : ST) (l1 : Int32) (l2 : Int32) (l3 : Int32) (l4 : Int32) (l5 : Int32) (l6 : Int32) , Kb S l1 l2 l3 l4 l5 l6 = some (r, S') → XW z (cM ad) 6 [(0, .ref (ad.1 0)), (1, .int l1), (2, .int l2), (3, .int l3), (4, .int l4), (5, .int l5), (6, .int l6)] [] S) {S : ST} {l1 : Int32} {l2 : Int32} {l3 : Int32} {l4 : Int32} {l6 : Int32} (h : m_latest_j86 Kb S l1 l2 l3 l4 l6 = some (r, S')) : XW z (cM ad) 86 [(0, .ref (ad.1 0)), (1, .int l1), (2, .int l2), (3, .int l3), (4, .int l4), (6, .int l6)] [] S := by
  unfold m_latest_j86 at h
  exact x_iload C dX12_latest_86 5 rfl (x_istore C dX12_latest_88 (by decide) rfl (x_perm [1, 2, 3, 4, 5, 0, 6] rfl (w_m_latest_j90 C E hKb h)))
set_option maxHeartbeats 4000000 in
theorem w_m_latest_j56 {z : ZT} {ad : AD} {ek : EK} {lh : Launch} {Dh : va_G} {r : Int32} {S' : ST} (C : CX z ad ek cX12_latest RX12 lh Dh 1 7) (E : EI z (cM ad) cX12_latest (some .int) r S') {Kb : ST → Int32 → Int32 → Int32 → Int32 → Int32 → Int32 → Option (Int32 × ST)} (hKb : ∀ (S : ST) (l1 : Int32) (l2 : Int32) (l3 : Int32) (l4 : Int32) (l5 : Int32) (l6 : Int32) , Kb S l1 l2 l3 l4 l5 l6 = some (r, S') → XW z (cM ad) 6 [(0, .ref (ad.1 0)), (1, .int l1), (2, .int l2), (3, .int l3), (4, .int l4), (5, .int l5), (6, .int l6)] [] S) {S : ST} {l1 : Int32} {l2 : Int32} {l3 : Int32} {l4 : Int32} {l5 : Int32} {l6 : Int32} {s0 : Int32} (h : m_latest_j56 Kb S l1 l2 l3 l4 l5 l6 s0 = some (r, S')) : XW z (cM ad) 56 [(0, .ref (ad.1 0)), (1, .int l1), (2, .int l2), (3, .int l3), (4, .int l4), (5, .int l5), (6, .int l6)] [.int s0] S := by
  unfold m_latest_j56 at h
  refine x_iload_n C dX12_latest_56 rfl 2 rfl (x_icmp_eq C (tgt := 63) dX12_latest_57 (by decide) (fun c => ?_) (fun c => ?_))
  · have h := ite_t h c
    refine x_iload C dX12_latest_63 5 rfl (x_iconst C dX12_latest_65 kc_m1 (x_icmp_eq C (tgt := 86) dX12_latest_66 (by decide) (fun c => ?_) (fun c => ?_)))
    · have h := ite_t h c
      exact x_perm [0, 1, 2, 3, 4, 6] rfl (w_m_latest_j86 C E hKb h)
    · have h := ite_f h c
      obtain ⟨g75, h⟩ := G_some h
      obtain ⟨g82, h⟩ := G_some h
      refine x_aload_n C dX12_latest_69 rfl 0 rfl (gM_X12_47 C u_5_127 dX12_latest_70 (x_iload C dX12_latest_73 6 rfl (aM_29 C g75 dX12_latest_75 (x_aload_n C dX12_latest_76 rfl 0 rfl (gM_X12_47 C u_5_127 dX12_latest_77 (x_iload C dX12_latest_80 5 rfl (aM_29 C g82 dX12_latest_82 (x_icmp_lt C (tgt := 90) dX12_latest_83 (by decide) (fun c => ?_) (fun c => ?_)))))))))
      · have h := ite_t h c
        exact w_m_latest_j90 C E hKb h
      · have h := ite_f h c
        exact x_perm [0, 1, 2, 3, 4, 6] rfl (w_m_latest_j86 C E hKb h)
  · have h := ite_f h c
    exact x_goto C (tgt := 90) dX12_latest_60 (by decide) (w_m_latest_j90 C E hKb h)
set_option maxHeartbeats 4000000 in
theorem w_m_latest_h6 {z : ZT} {ad : AD} {ek : EK} {lh : Launch} {Dh : va_G} {r : Int32} {S' : ST} (C : CX z ad ek cX12_latest RX12 lh Dh 1 7) (E : EI z (cM ad) cX12_latest (some .int) r S') : ∀ (n : Nat) (S : ST) (l1 : Int32) (l2 : Int32) (l3 : Int32) (l4 : Int32) (l5 : Int32) (l6 : Int32), m_latest_h6 n S l1 l2 l3 l4 l5 l6 = some (r, S') → XW z (cM ad) 6 [(0, .ref (ad.1 0)), (1, .int l1), (2, .int l2), (3, .int l3), (4, .int l4), (5, .int l5), (6, .int l6)] [] S := by
  intro n
  induction n with
  | zero => intro S l1 l2 l3 l4 l5 l6 h; cases h
  | succ n ih =>
    intro S l1 l2 l3 l4 l5 l6 h
    have hKb := ih
    refine x_iload C dX12_latest_6 6 rfl (x_iload C dX12_latest_8 4 rfl (x_icmp_ge C (tgt := 96) dX12_latest_10 (by decide) (fun c => ?_) (fun c => ?_)))
    · have h := ite_t h c
      exact (by
        exact x_iload C dX12_latest_96 5 rfl (x_iret E h retI dX12_latest_98))
    · have h := ite_f h c
      obtain ⟨g19, h⟩ := G_some h
      refine x_aload_n C dX12_latest_13 rfl 0 rfl (gM_X12_46 C u_5_126 dX12_latest_14 (x_iload C dX12_latest_17 6 rfl (aM_28 C g19 dX12_latest_19 (x_iconst C dX12_latest_20 kc_1 (x_icmp_ne C (tgt := 90) dX12_latest_21 (by decide) (fun c => ?_) (fun c => ?_))))))
      · have h := ite_f h c
        exact w_m_latest_j90 C E hKb h
      · have h := ite_t h c
        obtain ⟨g30, h⟩ := G_some h
        refine x_aload_n C dX12_latest_24 rfl 0 rfl (gM_X12_47 C u_5_127 dX12_latest_25 (x_iload C dX12_latest_28 6 rfl (aM_29 C g30 dX12_latest_30 (x_iload_n C dX12_latest_31 rfl 3 rfl (x_icmp_gt C (tgt := 90) dX12_latest_32 (by decide) (fun c => ?_) (fun c => ?_))))))
        · have h := ite_t h c
          exact w_m_latest_j90 C E hKb h
        · have h := ite_f h c
          refine x_iload_n C dX12_latest_35 rfl 1 rfl (x_if_eq C (tgt := 49) dX12_latest_36 (by decide) (fun c => ?_) (fun c => ?_))
          · have h := ite_t h c
            obtain ⟨g55, h⟩ := G_some h
            exact x_aload_n C dX12_latest_49 rfl 0 rfl (gM_X12_48 C u_5_128 dX12_latest_50 (x_iload C dX12_latest_53 6 rfl (aM_30 C g55 dX12_latest_55 (w_m_latest_j56 C E hKb h))))
          · have h := ite_f h c
            obtain ⟨g45, h⟩ := G_some h
            exact x_aload_n C dX12_latest_39 rfl 0 rfl (gM_X12_49 C u_5_129 dX12_latest_40 (x_iload C dX12_latest_43 6 rfl (aM_31 C g45 dX12_latest_45 (x_goto C (tgt := 56) dX12_latest_46 (by decide) (w_m_latest_j56 C E hKb h)))))
set_option maxHeartbeats 4000000 in
theorem c_m_latest {ad : AD} {ek : EK} {lh : Launch} {Dh : va_G} {r : Int32} {S' : ST}  {S : ST} {l1 : Int32} {l2 : Int32} {l3 : Int32} {l4 : Int32} (h : m_latest S l1 l2 l3 l4 = some (r, S')) : MXi lh Dh ad ek (cM ad) yX12_latest cX12_latest 7 (some .int) 1 [.ref (ad.1 0), .int l1, .int l2, .int l3, .int l4] S r S' := by
  refine mxi_of (by decide) (Nat.le_of_ble_eq_true rfl) (fun z C E => ?_)
  unfold m_latest at h
  exact x_iconst C dX12_latest_0 kc_m1 (x_istore C dX12_latest_1 (by decide) rfl (x_iconst C dX12_latest_3 kc_0 (x_istore C dX12_latest_4 (by decide) rfl (x_perm [2, 3, 4, 5, 6, 1, 0] rfl (w_m_latest_h6 C E FU _ _ _ _ _ _ _ h)))))
set_option maxHeartbeats 4000000 in
theorem w_m_mayTake_j47 {z : ZT} {ad : AD} {ek : EK} {lh : Launch} {Dh : va_G} {r : Int32} {S' : ST} (C : CX z ad ek cX12_mayTake RX12 lh Dh 1 4) (E : EI z (cM ad) cX12_mayTake (some .boolean) r S') {Kb : ST → Int32 → Int32 → Int32 → Option (Int32 × ST)} (hKb : ∀ (S : ST) (l1 : Int32) (l2 : Int32) (l3 : Int32) , Kb S l1 l2 l3 = some (r, S') → XW z (cM ad) 18 [(0, .ref (ad.1 0)), (1, .int l1), (2, .int l2), (3, .int l3)] [] S) {S : ST} {l1 : Int32} {l2 : Int32} {l3 : Int32} (h : m_mayTake_j47 Kb S l1 l2 l3 = some (r, S')) : XW z (cM ad) 47 [(0, .ref (ad.1 0)), (1, .int l1), (2, .int l2), (3, .int l3)] [] S := by
  unfold m_mayTake_j47 at h
  exact x_iinc C dX12_mayTake_47 3 rfl ki_1 (by decide) rfl (x_goto C (tgt := 18) dX12_mayTake_50 (by decide) (x_perm [1, 2, 3, 0] rfl (hKb _ _ _ _ h)))
set_option maxHeartbeats 4000000 in
theorem w_m_mayTake_h18 {z : ZT} {ad : AD} {ek : EK} {lh : Launch} {Dh : va_G} {r : Int32} {S' : ST} (C : CX z ad ek cX12_mayTake RX12 lh Dh 1 4) (E : EI z (cM ad) cX12_mayTake (some .boolean) r S') : ∀ (n : Nat) (S : ST) (l1 : Int32) (l2 : Int32) (l3 : Int32), m_mayTake_h18 n S l1 l2 l3 = some (r, S') → XW z (cM ad) 18 [(0, .ref (ad.1 0)), (1, .int l1), (2, .int l2), (3, .int l3)] [] S := by
  intro n
  induction n with
  | zero => intro S l1 l2 l3 h; cases h
  | succ n ih =>
    intro S l1 l2 l3 h
    have hKb := ih
    refine x_iload_n C dX12_mayTake_18 rfl 3 rfl (x_iload_n C dX12_mayTake_19 rfl 1 rfl (x_icmp_ge C (tgt := 53) dX12_mayTake_20 (by decide) (fun c => ?_) (fun c => ?_)))
    · have h := ite_t h c
      exact (by
        exact x_iconst C dX12_mayTake_53 kc_1 (x_iret E h (retB rfl) dX12_mayTake_54))
    · have h := ite_f h c
      obtain ⟨g28, h⟩ := G_some h
      refine x_aload_n C dX12_mayTake_23 rfl 0 rfl (gM_X12_67 C u_5_147 dX12_mayTake_24 (x_iload_n C dX12_mayTake_27 rfl 3 rfl (aM_42 C g28 dX12_mayTake_28 (x_iload_n C dX12_mayTake_29 rfl 2 rfl (x_icmp_ne C (tgt := 47) dX12_mayTake_30 (by decide) (fun c => ?_) (fun c => ?_))))))
      · have h := ite_f h c
        exact w_m_mayTake_j47 C E hKb h
      · have h := ite_t h c
        obtain ⟨g39, h⟩ := G_some h
        refine x_iload_n C dX12_mayTake_33 rfl 3 rfl (x_aload_n C dX12_mayTake_34 rfl 0 rfl (gM_X12_65 C u_5_145 dX12_mayTake_35 (x_iload_n C dX12_mayTake_38 rfl 2 rfl (aM_40 C g39 dX12_mayTake_39 (x_iadd C dX12_mayTake_40 (x_iload_n C dX12_mayTake_41 rfl 1 rfl (x_icmp_lt C (tgt := 47) dX12_mayTake_42 (by decide) (fun c => ?_) (fun c => ?_))))))))
        · have h := ite_t h c
          exact w_m_mayTake_j47 C E hKb h
        · have h := ite_f h c
          exact (by
            exact x_iconst C dX12_mayTake_45 kc_0 (x_iret E h (retB rfl) dX12_mayTake_46))
set_option maxHeartbeats 4000000 in
theorem c_m_mayTake {ad : AD} {ek : EK} {lh : Launch} {Dh : va_G} {r : Int32} {S' : ST}  {S : ST} {l1 : Int32} {l2 : Int32} (h : m_mayTake S l1 l2 = some (r, S')) : MXi lh Dh ad ek (cM ad) yX12_mayTake cX12_mayTake 4 (some .boolean) 1 [.ref (ad.1 0), .int l1, .int l2] S r S' := by
  refine mxi_of (by decide) (Nat.le_of_ble_eq_true rfl) (fun z C E => ?_)
  unfold m_mayTake at h
  obtain ⟨g5, h⟩ := G_some h
  refine x_aload_n C dX12_mayTake_0 rfl 0 rfl (gM_X12_66 C u_5_146 dX12_mayTake_1 (x_iload_n C dX12_mayTake_4 rfl 2 rfl (aM_41 C g5 dX12_mayTake_5 (x_iload_n C dX12_mayTake_6 rfl 1 rfl (x_ishr C dX12_mayTake_7 (x_iconst C dX12_mayTake_8 kc_1 (x_iand C dX12_mayTake_9 (x_iconst C dX12_mayTake_10 kc_1 (x_icmp_ne C (tgt := 16) dX12_mayTake_11 (by decide) (fun c => ?_) (fun c => ?_))))))))))
  · have h := ite_f h c
    exact x_iconst C dX12_mayTake_16 kc_0 (x_istore_n C dX12_mayTake_17 rfl (by decide) rfl (x_perm [1, 2, 3, 0] rfl (w_m_mayTake_h18 C E FU _ _ _ _ h)))
  · have h := ite_t h c
    exact x_iconst C dX12_mayTake_14 kc_0 (x_iret E h (retB rfl) dX12_mayTake_15)
set_option maxHeartbeats 4000000 in
theorem c_m_more {ad : AD} {ek : EK} {lh : Launch} {Dh : va_G} {w : ST → va_W} {S0 : ST} {r : Int64}  {l0 : Int64} {l2 : Int32} (h : m_more l0 l2 = some r) : MXl lh Dh ad ek w yX12_more cX12_more 3 (some .long) 1 [.long l0, .int l2] S0 r S0 := by
  refine mxl_of (by decide) (Nat.le_of_ble_eq_true rfl) (fun z C E => ?_)
  unfold m_more at h
  refine x_iload_n C dX12_more_0 rfl 1 rfl (x_if_ne C (tgt := 8) dX12_more_1 (by decide) (fun c => ?_) (fun c => ?_))
  · have h := ite_f h c
    exact x_ldc2 C u_5_80 dX12_more_8 (x_lload_n C dX12_more_11 rfl 0 rfl (x_lmul C dX12_more_12 (x_iload_n C dX12_more_13 rfl 1 rfl (x_bipush C dX12_more_14 kb_97 (x_isub C dX12_more_16 (x_iconst C dX12_more_17 kc_1 (x_iadd C dX12_more_18 (x_i2l C dX12_more_19 (x_ladd C dX12_more_20 (x_lret0 E h dX12_more_21))))))))))
  · have h := ite_t h c
    exact x_lload_n C dX12_more_4 rfl 0 rfl (x_goto C (tgt := 21) dX12_more_5 (by decide) (x_lret0 E h dX12_more_21))
set_option maxHeartbeats 4000000 in
theorem w_m_onTape_j30 {z : ZT} {ad : AD} {ek : EK} {lh : Launch} {Dh : va_G} {r : Int32} {S' : ST} (C : CX z ad ek cX12_onTape RX12 lh Dh 1 4) (E : EI z (cM ad) cX12_onTape (some .int) r S') {Kb : ST → Int32 → Int32 → Int32 → Option (Int32 × ST)} (hKb : ∀ (S : ST) (l1 : Int32) (l2 : Int32) (l3 : Int32) , Kb S l1 l2 l3 = some (r, S') → XW z (cM ad) 4 [(0, .ref (ad.1 0)), (1, .int l1), (2, .int l2), (3, .int l3)] [] S) {S : ST} {l1 : Int32} {l2 : Int32} {l3 : Int32} (h : m_onTape_j30 Kb S l1 l2 l3 = some (r, S')) : XW z (cM ad) 30 [(0, .ref (ad.1 0)), (1, .int l1), (2, .int l2), (3, .int l3)] [] S := by
  unfold m_onTape_j30 at h
  exact x_iinc C dX12_onTape_30 3 rfl ki_1 (by decide) rfl (x_goto C (tgt := 4) dX12_onTape_33 (by decide) (x_perm [1, 2, 3, 0] rfl (hKb _ _ _ _ h)))
set_option maxHeartbeats 4000000 in
theorem w_m_onTape_h4 {z : ZT} {ad : AD} {ek : EK} {lh : Launch} {Dh : va_G} {r : Int32} {S' : ST} (C : CX z ad ek cX12_onTape RX12 lh Dh 1 4) (E : EI z (cM ad) cX12_onTape (some .int) r S') : ∀ (n : Nat) (S : ST) (l1 : Int32) (l2 : Int32) (l3 : Int32), m_onTape_h4 n S l1 l2 l3 = some (r, S') → XW z (cM ad) 4 [(0, .ref (ad.1 0)), (1, .int l1), (2, .int l2), (3, .int l3)] [] S := by
  intro n
  induction n with
  | zero => intro S l1 l2 l3 h; cases h
  | succ n ih =>
    intro S l1 l2 l3 h
    have hKb := ih
    obtain ⟨g10, h⟩ := G_some h
    refine x_iload_n C dX12_onTape_4 rfl 3 rfl (x_aload_n C dX12_onTape_5 rfl 0 rfl (gM_X12_63 C u_5_143 dX12_onTape_6 (x_iconst C dX12_onTape_9 kc_2 (aM_38 C g10 dX12_onTape_10 (x_icmp_ge C (tgt := 36) dX12_onTape_11 (by decide) (fun c => ?_) (fun c => ?_))))))
    · have h := ite_t h c
      exact (by
        exact x_iload_n C dX12_onTape_36 rfl 2 rfl (x_iret E h retI dX12_onTape_37))
    · have h := ite_f h c
      obtain ⟨g22, h⟩ := G_some h
      refine x_aload_n C dX12_onTape_14 rfl 0 rfl (gM_X12_62 C u_5_142 dX12_onTape_15 (x_bipush C dX12_onTape_18 kb_24 (x_iload_n C dX12_onTape_20 rfl 3 rfl (x_iadd C dX12_onTape_21 (aM_37 C g22 dX12_onTape_22 (x_iload_n C dX12_onTape_23 rfl 1 rfl (x_icmp_ne C (tgt := 30) dX12_onTape_24 (by decide) (fun c => ?_) (fun c => ?_))))))))
      · have h := ite_f h c
        exact w_m_onTape_j30 C E hKb h
      · have h := ite_t h c
        exact x_iinc C dX12_onTape_27 2 rfl ki_1 (by decide) rfl (x_perm [1, 2, 0, 3] rfl (w_m_onTape_j30 C E hKb h))
set_option maxHeartbeats 4000000 in
theorem c_m_onTape {ad : AD} {ek : EK} {lh : Launch} {Dh : va_G} {r : Int32} {S' : ST}  {S : ST} {l1 : Int32} (h : m_onTape S l1 = some (r, S')) : MXi lh Dh ad ek (cM ad) yX12_onTape cX12_onTape 4 (some .int) 1 [.ref (ad.1 0), .int l1] S r S' := by
  refine mxi_of (by decide) (Nat.le_of_ble_eq_true rfl) (fun z C E => ?_)
  unfold m_onTape at h
  exact x_iconst C dX12_onTape_0 kc_0 (x_istore_n C dX12_onTape_1 rfl (by decide) rfl (x_iconst C dX12_onTape_2 kc_0 (x_istore_n C dX12_onTape_3 rfl (by decide) rfl (x_perm [2, 3, 1, 0] rfl (w_m_onTape_h4 C E FU _ _ _ _ h)))))
set_option maxHeartbeats 4000000 in
theorem c_m_place {ad : AD} {ek : EK} {lh : Launch} {Dh : va_G} {r : Int32} {S' : ST}  {S : ST} (h : m_place S = some (r, S')) : MXi lh Dh ad ek (cM ad) yX12_place cX12_place 1 (some .int) 1 [.ref (ad.1 0)] S r S' := by
  refine mxi_of (by decide) (Nat.le_of_ble_eq_true rfl) (fun z C E => ?_)
  unfold m_place at h
  exact x_aload_n C dX12_place_0 rfl 0 rfl (gM_X12_17 C u_5_97 dX12_place_1 (x_iret E h retI dX12_place_4))
set_option maxHeartbeats 4000000 in
theorem w_m_put_h3 {z : ZT} {ad : AD} {ek : EK} {lh : Launch} {Dh : va_G} {S' : ST} (C : CX z ad ek cX12_put RX12 lh Dh 1 3) (E : EV z (cM ad) cX12_put S') : ∀ (n : Nat) (S : ST) (l1 : Int32) (l2 : Int32), m_put_h3 n S l1 l2 = some S' → XW z (cM ad) 3 [(0, .ref (ad.1 0)), (1, .int l1), (2, .int l2)] [] S := by
  intro n
  induction n with
  | zero => intro S l1 l2 h; cases h
  | succ n ih =>
    intro S l1 l2 h
    have hKb := ih
    refine x_iload_n C dX12_put_3 rfl 2 rfl (x_if_lt C (tgt := 36) dX12_put_4 (by decide) (fun c => ?_) (fun c => ?_))
    · have h := ite_t h c
      exact (by
        exact x_vret E h dX12_put_36)
    · have h := ite_f h c
      obtain ⟨g19, h⟩ := G_some h
      exact x_aload_n C dX12_put_7 rfl 0 rfl (gM_X12_1 C u_5_81 dX12_put_8 (x_aload_n C dX12_put_11 rfl 0 rfl (gM_X12_2 C u_5_82 dX12_put_12 (x_iload_n C dX12_put_15 rfl 1 rfl (x_iload_n C dX12_put_16 rfl 2 rfl (x_ishr C dX12_put_17 (x_i2b C dX12_put_18 (sM_1 C g19 dX12_put_19 (x_aload_n C dX12_put_20 rfl 0 rfl (x_dup C dX12_put_21 rfl (gM_X12_2 C u_5_82 dX12_put_22 (x_iconst C dX12_put_25 kc_1 (x_iadd C dX12_put_26 (pM_X12_2 C u_5_82 dX12_put_27 (x_iinc C dX12_put_30 2 rfl ki_m8 (by decide) rfl (x_goto C (tgt := 3) dX12_put_33 (by decide) (x_perm [1, 2, 0] rfl (hKb _ _ _ h))))))))))))))))))
set_option maxHeartbeats 4000000 in
theorem c_m_put {ad : AD} {ek : EK} {lh : Launch} {Dh : va_G} {S' : ST}  {S : ST} {l1 : Int32} (h : m_put S l1 = some S') : MXv lh Dh ad ek (cM ad) yX12_put cX12_put 3 none 1 [.ref (ad.1 0), .int l1] S S' := by
  refine mxv_of (by decide) (Nat.le_of_ble_eq_true rfl) (fun z C E => ?_)
  unfold m_put at h
  exact x_bipush C dX12_put_0 kb_24 (x_istore_n C dX12_put_2 rfl (by decide) rfl (x_perm [1, 2, 0] rfl (w_m_put_h3 C E FU _ _ _ h)))
set_option maxHeartbeats 4000000 in
theorem w_m_sames_j143 {z : ZT} {ad : AD} {ek : EK} {lh : Launch} {Dh : va_G} {S' : ST} (C : CX z ad ek cX12_sames RX12 lh Dh 1 6) (E : EV z (cM ad) cX12_sames S') {Kb : ST → Int32 → Int32 → Int32 → Option ST} (hKb : ∀ (S : ST) (l2 : Int32) (l3 : Int32) (l4 : Int32) , Kb S l2 l3 l4 = some S' → XW z (cM ad) 38 [(0, .ref (ad.1 0)), (2, .int l2), (3, .int l3), (4, .int l4)] [] S) {S : ST} {l2 : Int32} {l3 : Int32} {l4 : Int32} (h : m_sames_j143 Kb S l2 l3 l4 = some S') : XW z (cM ad) 143 [(0, .ref (ad.1 0)), (2, .int l2), (3, .int l3), (4, .int l4)] [] S := by
  unfold m_sames_j143 at h
  exact x_goto C (tgt := 38) dX12_sames_143 (by decide) (hKb _ _ _ _ h)
set_option maxHeartbeats 4000000 in
theorem w_m_sames_j137 {z : ZT} {ad : AD} {ek : EK} {lh : Launch} {Dh : va_G} {S' : ST} (C : CX z ad ek cX12_sames RX12 lh Dh 1 6) (E : EV z (cM ad) cX12_sames S') {Kb : ST → Int32 → Int32 → Int32 → Int32 → Option ST} (hKb : ∀ (S : ST) (l2 : Int32) (l3 : Int32) (l4 : Int32) (l5 : Int32) , Kb S l2 l3 l4 l5 = some S' → XW z (cM ad) 49 [(0, .ref (ad.1 0)), (2, .int l2), (3, .int l3), (4, .int l4), (5, .int l5)] [] S) {K143 : ST → Int32 → Int32 → Int32 → Option ST} (hK143 : ∀ (S : ST) (l2 : Int32) (l3 : Int32) (l4 : Int32) , K143 S l2 l3 l4 = some S' → XW z (cM ad) 143 [(0, .ref (ad.1 0)), (2, .int l2), (3, .int l3), (4, .int l4)] [] S) {S : ST} {l2 : Int32} {l3 : Int32} {l4 : Int32} {l5 : Int32} (h : m_sames_j137 Kb K143 S l2 l3 l4 l5 = some S') : XW z (cM ad) 137 [(0, .ref (ad.1 0)), (2, .int l2), (3, .int l3), (4, .int l4), (5, .int l5)] [] S := by
  unfold m_sames_j137 at h
  exact x_iinc C dX12_sames_137 4 rfl ki_1 (by decide) rfl (x_goto C (tgt := 49) dX12_sames_140 (by decide) (x_perm [1, 2, 3, 4, 0] rfl (hKb _ _ _ _ _ h)))
set_option maxHeartbeats 4000000 in
theorem w_m_sames_h49 {z : ZT} {ad : AD} {ek : EK} {lh : Launch} {Dh : va_G} {S' : ST} (C : CX z ad ek cX12_sames RX12 lh Dh 1 6) (E : EV z (cM ad) cX12_sames S') {K143 : ST → Int32 → Int32 → Int32 → Option ST} (hK143 : ∀ (S : ST) (l2 : Int32) (l3 : Int32) (l4 : Int32) , K143 S l2 l3 l4 = some S' → XW z (cM ad) 143 [(0, .ref (ad.1 0)), (2, .int l2), (3, .int l3), (4, .int l4)] [] S) : ∀ (n : Nat) (S : ST) (l2 : Int32) (l3 : Int32) (l4 : Int32) (l5 : Int32), m_sames_h49 K143 n S l2 l3 l4 l5 = some S' → XW z (cM ad) 49 [(0, .ref (ad.1 0)), (2, .int l2), (3, .int l3), (4, .int l4), (5, .int l5)] [] S := by
  intro n
  induction n with
  | zero => intro S l2 l3 l4 l5 h; cases h
  | succ n ih =>
    intro S l2 l3 l4 l5 h
    have hKb := ih
    refine x_iload C dX12_sames_49 4 rfl (x_iload_n C dX12_sames_51 rfl 2 rfl (x_icmp_ge C (tgt := 143) dX12_sames_52 (by decide) (fun c => ?_) (fun c => ?_)))
    · have h := ite_t h c
      exact x_perm [0, 1, 2, 3] rfl (hK143 _ _ _ _ h)
    · have h := ite_f h c
      obtain ⟨g61, h⟩ := G_some h
      refine x_aload_n C dX12_sames_55 rfl 0 rfl (gM_X12_46 C u_5_126 dX12_sames_56 (x_iload C dX12_sames_59 4 rfl (aM_28 C g61 dX12_sames_61 (x_bipush C dX12_sames_62 kb_8 (x_icmp_ne C (tgt := 137) dX12_sames_64 (by decide) (fun c => ?_) (fun c => ?_))))))
      · have h := ite_f h c
        exact w_m_sames_j137 C E hKb hK143 h
      · have h := ite_t h c
        obtain ⟨g73, h⟩ := G_some h
        refine x_aload_n C dX12_sames_67 rfl 0 rfl (gM_X12_47 C u_5_127 dX12_sames_68 (x_iload C dX12_sames_71 4 rfl (aM_29 C g73 dX12_sames_73 (x_iload_n C dX12_sames_74 rfl 1 rfl (x_icmp_gt C (tgt := 137) dX12_sames_75 (by decide) (fun c => ?_) (fun c => ?_))))))
        · have h := ite_t h c
          exact w_m_sames_j137 C E hKb hK143 h
        · have h := ite_f h c
          obtain ⟨g88, h⟩ := G_some h
          obtain ⟨g89, h⟩ := G_some h
          obtain ⟨g100, h⟩ := G_some h
          obtain ⟨g101, h⟩ := G_some h
          refine x_aload_n C dX12_sames_78 rfl 0 rfl (gM_X12_70 C u_5_150 dX12_sames_79 (x_aload_n C dX12_sames_82 rfl 0 rfl (gM_X12_48 C u_5_128 dX12_sames_83 (x_iload C dX12_sames_86 4 rfl (aM_30 C g88 dX12_sames_88 (aM_44 C g89 dX12_sames_89 (x_aload_n C dX12_sames_90 rfl 0 rfl (gM_X12_70 C u_5_150 dX12_sames_91 (x_aload_n C dX12_sames_94 rfl 0 rfl (gM_X12_49 C u_5_129 dX12_sames_95 (x_iload C dX12_sames_98 4 rfl (aM_31 C g100 dX12_sames_100 (aM_44 C g101 dX12_sames_101 (x_icmp_ne C (tgt := 108) dX12_sames_102 (by decide) (fun c => ?_) (fun c => ?_)))))))))))))))
          · have h := ite_f h c
            obtain ⟨g118, h⟩ := G_some h
            obtain ⟨g120, h⟩ := G_some h
            obtain ⟨g131, h⟩ := G_some h
            obtain ⟨g133, h⟩ := G_some h
            exact x_aload_n C dX12_sames_108 rfl 0 rfl (gM_X12_70 C u_5_150 dX12_sames_109 (x_aload_n C dX12_sames_112 rfl 0 rfl (gM_X12_48 C u_5_128 dX12_sames_113 (x_iload C dX12_sames_116 4 rfl (aM_30 C g118 dX12_sames_118 (x_iconst C dX12_sames_119 kc_1 (sM_44 C g120 dX12_sames_120 (x_aload_n C dX12_sames_121 rfl 0 rfl (gM_X12_70 C u_5_150 dX12_sames_122 (x_aload_n C dX12_sames_125 rfl 0 rfl (gM_X12_49 C u_5_129 dX12_sames_126 (x_iload C dX12_sames_129 4 rfl (aM_31 C g131 dX12_sames_131 (x_iconst C dX12_sames_132 kc_1 (sM_44 C g133 dX12_sames_133 (x_iconst C dX12_sames_134 kc_1 (x_istore C dX12_sames_135 (by decide) rfl (x_perm [1, 2, 3, 0, 4] rfl (w_m_sames_j137 C E hKb hK143 h)))))))))))))))))))
          · have h := ite_t h c
            exact x_goto C (tgt := 137) dX12_sames_105 (by decide) (w_m_sames_j137 C E hKb hK143 h)
set_option maxHeartbeats 4000000 in
theorem w_m_sames_h38 {z : ZT} {ad : AD} {ek : EK} {lh : Launch} {Dh : va_G} {S' : ST} (C : CX z ad ek cX12_sames RX12 lh Dh 1 6) (E : EV z (cM ad) cX12_sames S') : ∀ (n : Nat) (S : ST) (l2 : Int32) (l3 : Int32) (l4 : Int32), m_sames_h38 n S l2 l3 l4 = some S' → XW z (cM ad) 38 [(0, .ref (ad.1 0)), (2, .int l2), (3, .int l3), (4, .int l4)] [] S := by
  intro n
  induction n with
  | zero => intro S l2 l3 l4 h; cases h
  | succ n ih =>
    intro S l2 l3 l4 h
    have hKb := ih
    refine x_iload C dX12_sames_38 3 rfl (x_if_eq C (tgt := 146) dX12_sames_40 (by decide) (fun c => ?_) (fun c => ?_))
    · have h := ite_t h c
      exact (by
        exact x_vret E h dX12_sames_146)
    · have h := ite_f h c
      exact x_iconst C dX12_sames_43 kc_0 (x_istore C dX12_sames_44 (by decide) rfl (x_iconst C dX12_sames_46 kc_0 (x_istore C dX12_sames_47 (by decide) rfl (x_perm [2, 3, 4, 1, 0] rfl (w_m_sames_h49 C E (fun _ _ _ _ h => w_m_sames_j143 C E hKb h) FU _ _ _ _ _ h)))))
set_option maxHeartbeats 4000000 in
theorem w_m_sames_j35 {z : ZT} {ad : AD} {ek : EK} {lh : Launch} {Dh : va_G} {S' : ST} (C : CX z ad ek cX12_sames RX12 lh Dh 1 6) (E : EV z (cM ad) cX12_sames S') {S : ST} {l2 : Int32} {l3 : Int32} (h : m_sames_j35 S l2 l3 = some S') : XW z (cM ad) 35 [(0, .ref (ad.1 0)), (2, .int l2), (3, .int l3)] [] S := by
  unfold m_sames_j35 at h
  exact x_iconst C dX12_sames_35 kc_1 (x_istore C dX12_sames_36 (by decide) rfl (x_perm [1, 2, 3, 0] rfl (w_m_sames_h38 C E FU _ _ _ _ h)))
set_option maxHeartbeats 4000000 in
theorem w_m_sames_j28 {z : ZT} {ad : AD} {ek : EK} {lh : Launch} {Dh : va_G} {S' : ST} (C : CX z ad ek cX12_sames RX12 lh Dh 1 6) (E : EV z (cM ad) cX12_sames S') {Kb : ST → Int32 → Int32 → Int32 → Int32 → Option ST} (hKb : ∀ (S : ST) (l1 : Int32) (l2 : Int32) (l3 : Int32) (l4 : Int32) , Kb S l1 l2 l3 l4 = some S' → XW z (cM ad) 3 [(0, .ref (ad.1 0)), (1, .int l1), (2, .int l2), (3, .int l3), (4, .int l4)] [] S) {K35 : ST → Int32 → Int32 → Option ST} (hK35 : ∀ (S : ST) (l2 : Int32) (l3 : Int32) , K35 S l2 l3 = some S' → XW z (cM ad) 35 [(0, .ref (ad.1 0)), (2, .int l2), (3, .int l3)] [] S) {S : ST} {l1 : Int32} {l2 : Int32} {l3 : Int32} {l4 : Int32} {s0 : Int32} {s1 : Int32} (h : m_sames_j28 Kb K35 S l1 l2 l3 l4 s0 s1 = some S') : XW z (cM ad) 28 [(0, .ref (ad.1 0)), (1, .int l1), (2, .int l2), (3, .int l3), (4, .int l4)] [.int s0, .int s1, .ref (ad.1 44)] S := by
  unfold m_sames_j28 at h
  obtain ⟨g28, h⟩ := G_some h
  exact sM_44 C g28 dX12_sames_28 (x_iinc C dX12_sames_29 4 rfl ki_1 (by decide) rfl (x_goto C (tgt := 3) dX12_sames_32 (by decide) (x_perm [1, 2, 3, 4, 0] rfl (hKb _ _ _ _ _ h))))
set_option maxHeartbeats 4000000 in
theorem w_m_sames_h3 {z : ZT} {ad : AD} {ek : EK} {lh : Launch} {Dh : va_G} {S' : ST} (C : CX z ad ek cX12_sames RX12 lh Dh 1 6) (E : EV z (cM ad) cX12_sames S') {K35 : ST → Int32 → Int32 → Option ST} (hK35 : ∀ (S : ST) (l2 : Int32) (l3 : Int32) , K35 S l2 l3 = some S' → XW z (cM ad) 35 [(0, .ref (ad.1 0)), (2, .int l2), (3, .int l3)] [] S) : ∀ (n : Nat) (S : ST) (l1 : Int32) (l2 : Int32) (l3 : Int32) (l4 : Int32), m_sames_h3 K35 n S l1 l2 l3 l4 = some S' → XW z (cM ad) 3 [(0, .ref (ad.1 0)), (1, .int l1), (2, .int l2), (3, .int l3), (4, .int l4)] [] S := by
  intro n
  induction n with
  | zero => intro S l1 l2 l3 l4 h; cases h
  | succ n ih =>
    intro S l1 l2 l3 l4 h
    have hKb := ih
    refine x_iload C dX12_sames_3 4 rfl (x_sipush C dX12_sames_5 ks_1000 (x_icmp_ge C (tgt := 35) dX12_sames_8 (by decide) (fun c => ?_) (fun c => ?_)))
    · have h := ite_t h c
      exact x_perm [0, 2, 3] rfl (hK35 _ _ _ h)
    · have h := ite_f h c
      refine x_aload_n C dX12_sames_11 rfl 0 rfl (gM_X12_70 C u_5_150 dX12_sames_12 (x_iload C dX12_sames_15 4 rfl (x_iload C dX12_sames_17 4 rfl (x_iload_n C dX12_sames_19 rfl 1 rfl (x_icmp_ne C (tgt := 27) dX12_sames_20 (by decide) (fun c => ?_) (fun c => ?_))))))
      · have h := ite_f h c
        exact x_iconst C dX12_sames_27 kc_0 (w_m_sames_j28 C E hKb hK35 h)
      · have h := ite_t h c
        exact x_iconst C dX12_sames_23 kc_1 (x_goto C (tgt := 28) dX12_sames_24 (by decide) (w_m_sames_j28 C E hKb hK35 h))
set_option maxHeartbeats 4000000 in
theorem c_m_sames {ad : AD} {ek : EK} {lh : Launch} {Dh : va_G} {S' : ST}  {S : ST} {l1 : Int32} {l2 : Int32} {l3 : Int32} (h : m_sames S l1 l2 l3 = some S') : MXv lh Dh ad ek (cM ad) yX12_sames cX12_sames 6 none 1 [.ref (ad.1 0), .int l1, .int l2, .int l3] S S' := by
  refine mxv_of (by decide) (Nat.le_of_ble_eq_true rfl) (fun z C E => ?_)
  unfold m_sames at h
  exact x_iconst C dX12_sames_0 kc_0 (x_istore C dX12_sames_1 (by decide) rfl (x_perm [1, 2, 3, 4, 0] rfl (w_m_sames_h3 C E (fun _ _ _ h => w_m_sames_j35 C E  h) FU _ _ _ _ _ h)))
set_option maxHeartbeats 4000000 in
theorem w_m_stands_j108 {z : ZT} {ad : AD} {ek : EK} {lh : Launch} {Dh : va_G} {S' : ST} (C : CX z ad ek cX12_stands RX12 lh Dh 1 5) (E : EV z (cM ad) cX12_stands S') {Kb : ST → Int32 → Int32 → Int32 → Option ST} (hKb : ∀ (S : ST) (l1 : Int32) (l2 : Int32) (l3 : Int32) , Kb S l1 l2 l3 = some S' → XW z (cM ad) 7 [(0, .ref (ad.1 0)), (1, .int l1), (2, .int l2), (3, .int l3)] [] S) {S : ST} {l1 : Int32} {l2 : Int32} {l3 : Int32} (h : m_stands_j108 Kb S l1 l2 l3 = some S') : XW z (cM ad) 108 [(0, .ref (ad.1 0)), (1, .int l1), (2, .int l2), (3, .int l3)] [] S := by
  unfold m_stands_j108 at h
  exact x_iinc C dX12_stands_108 3 rfl ki_1 (by decide) rfl (x_goto C (tgt := 7) dX12_stands_111 (by decide) (x_perm [1, 2, 3, 0] rfl (hKb _ _ _ _ h)))
set_option maxHeartbeats 4000000 in
theorem w_m_stands_j90 {z : ZT} {ad : AD} {ek : EK} {lh : Launch} {Dh : va_G} {S' : ST} (C : CX z ad ek cX12_stands RX12 lh Dh 1 5) (E : EV z (cM ad) cX12_stands S') {Kb : ST → Int32 → Int32 → Int32 → Option ST} (hKb : ∀ (S : ST) (l1 : Int32) (l2 : Int32) (l3 : Int32) , Kb S l1 l2 l3 = some S' → XW z (cM ad) 7 [(0, .ref (ad.1 0)), (1, .int l1), (2, .int l2), (3, .int l3)] [] S) {S : ST} {l1 : Int32} {l2 : Int32} {l3 : Int32} {l4 : Int32} (h : m_stands_j90 Kb S l1 l2 l3 l4 = some S') : XW z (cM ad) 90 [(0, .ref (ad.1 0)), (1, .int l1), (2, .int l2), (3, .int l3), (4, .int l4)] [] S := by
  unfold m_stands_j90 at h
  obtain ⟨g97, h⟩ := G_some h
  exact x_aload_n C dX12_stands_90 rfl 0 rfl (gM_X12_59 C u_5_139 dX12_stands_91 (x_iload C dX12_stands_94 4 rfl (x_iload_n C dX12_stands_96 rfl 3 rfl (sM_36 C g97 dX12_stands_97 (x_aload_n C dX12_stands_98 rfl 0 rfl (x_dup C dX12_stands_99 rfl (gM_X12_60 C u_5_140 dX12_stands_100 (x_iconst C dX12_stands_103 kc_1 (x_iadd C dX12_stands_104 (pM_X12_60 C u_5_140 dX12_stands_105 (x_perm [0, 1, 2, 3] rfl (w_m_stands_j108 C E hKb h))))))))))))
set_option maxHeartbeats 4000000 in
theorem w_m_stands_h40 {z : ZT} {ad : AD} {ek : EK} {lh : Launch} {Dh : va_G} {S' : ST} (C : CX z ad ek cX12_stands RX12 lh Dh 1 5) (E : EV z (cM ad) cX12_stands S') {K90 : ST → Int32 → Int32 → Int32 → Int32 → Option ST} (hK90 : ∀ (S : ST) (l1 : Int32) (l2 : Int32) (l3 : Int32) (l4 : Int32) , K90 S l1 l2 l3 l4 = some S' → XW z (cM ad) 90 [(0, .ref (ad.1 0)), (1, .int l1), (2, .int l2), (3, .int l3), (4, .int l4)] [] S) : ∀ (n : Nat) (S : ST) (l1 : Int32) (l2 : Int32) (l3 : Int32) (l4 : Int32), m_stands_h40 K90 n S l1 l2 l3 l4 = some S' → XW z (cM ad) 40 [(0, .ref (ad.1 0)), (1, .int l1), (2, .int l2), (3, .int l3), (4, .int l4)] [] S := by
  intro n
  induction n with
  | zero => intro S l1 l2 l3 l4 h; cases h
  | succ n ih =>
    intro S l1 l2 l3 l4 h
    have hKb := ih
    refine x_iload C dX12_stands_40 4 rfl (x_if_le C (tgt := 90) dX12_stands_42 (by decide) (fun c => ?_) (fun c => ?_))
    · have h := ite_t h c
      exact hK90 _ _ _ _ _ h
    · have h := ite_f h c
      obtain ⟨g57, h⟩ := G_some h
      obtain ⟨g58, h⟩ := G_some h
      obtain ⟨g64, h⟩ := G_some h
      refine x_aload_n C dX12_stands_45 rfl 0 rfl (gM_X12_48 C u_5_128 dX12_stands_46 (x_aload_n C dX12_stands_49 rfl 0 rfl (gM_X12_59 C u_5_139 dX12_stands_50 (x_iload C dX12_stands_53 4 rfl (x_iconst C dX12_stands_55 kc_1 (x_isub C dX12_stands_56 (aM_36 C g57 dX12_stands_57 (aM_30 C g58 dX12_stands_58 (x_aload_n C dX12_stands_59 rfl 0 rfl (gM_X12_48 C u_5_128 dX12_stands_60 (x_iload_n C dX12_stands_63 rfl 3 rfl (aM_30 C g64 dX12_stands_64 (x_icmp_le C (tgt := 90) dX12_stands_65 (by decide) (fun c => ?_) (fun c => ?_))))))))))))))
      · have h := ite_t h c
        exact hK90 _ _ _ _ _ h
      · have h := ite_f h c
        obtain ⟨g82, h⟩ := G_some h
        obtain ⟨g83, h⟩ := G_some h
        exact x_aload_n C dX12_stands_68 rfl 0 rfl (gM_X12_59 C u_5_139 dX12_stands_69 (x_iload C dX12_stands_72 4 rfl (x_aload_n C dX12_stands_74 rfl 0 rfl (gM_X12_59 C u_5_139 dX12_stands_75 (x_iload C dX12_stands_78 4 rfl (x_iconst C dX12_stands_80 kc_1 (x_isub C dX12_stands_81 (aM_36 C g82 dX12_stands_82 (sM_36 C g83 dX12_stands_83 (x_iinc C dX12_stands_84 4 rfl ki_m1 (by decide) rfl (x_goto C (tgt := 40) dX12_stands_87 (by decide) (x_perm [1, 2, 3, 4, 0] rfl (hKb _ _ _ _ _ h)))))))))))))
set_option maxHeartbeats 4000000 in
theorem w_m_stands_h7 {z : ZT} {ad : AD} {ek : EK} {lh : Launch} {Dh : va_G} {S' : ST} (C : CX z ad ek cX12_stands RX12 lh Dh 1 5) (E : EV z (cM ad) cX12_stands S') : ∀ (n : Nat) (S : ST) (l1 : Int32) (l2 : Int32) (l3 : Int32), m_stands_h7 n S l1 l2 l3 = some S' → XW z (cM ad) 7 [(0, .ref (ad.1 0)), (1, .int l1), (2, .int l2), (3, .int l3)] [] S := by
  intro n
  induction n with
  | zero => intro S l1 l2 l3 h; cases h
  | succ n ih =>
    intro S l1 l2 l3 h
    have hKb := ih
    refine x_iload_n C dX12_stands_7 rfl 3 rfl (x_iload_n C dX12_stands_8 rfl 2 rfl (x_icmp_ge C (tgt := 114) dX12_stands_9 (by decide) (fun c => ?_) (fun c => ?_)))
    · have h := ite_t h c
      exact (by
        exact x_vret E h dX12_stands_114)
    · have h := ite_f h c
      obtain ⟨g17, h⟩ := G_some h
      refine x_aload_n C dX12_stands_12 rfl 0 rfl (gM_X12_46 C u_5_126 dX12_stands_13 (x_iload_n C dX12_stands_16 rfl 3 rfl (aM_28 C g17 dX12_stands_17 (x_if_ne C (tgt := 108) dX12_stands_18 (by decide) (fun c => ?_) (fun c => ?_)))))
      · have h := ite_f h c
        exact w_m_stands_j108 C E hKb h
      · have h := ite_t h c
        obtain ⟨g26, h⟩ := G_some h
        refine x_aload_n C dX12_stands_21 rfl 0 rfl (gM_X12_47 C u_5_127 dX12_stands_22 (x_iload_n C dX12_stands_25 rfl 3 rfl (aM_29 C g26 dX12_stands_26 (x_iload_n C dX12_stands_27 rfl 1 rfl (x_icmp_eq C (tgt := 34) dX12_stands_28 (by decide) (fun c => ?_) (fun c => ?_))))))
        · have h := ite_t h c
          exact x_aload_n C dX12_stands_34 rfl 0 rfl (gM_X12_60 C u_5_140 dX12_stands_35 (x_istore C dX12_stands_38 (by decide) rfl (x_perm [1, 2, 3, 4, 0] rfl (w_m_stands_h40 C E (fun _ _ _ _ _ h => w_m_stands_j90 C E hKb h) FU _ _ _ _ _ h))))
        · have h := ite_f h c
          exact x_goto C (tgt := 108) dX12_stands_31 (by decide) (w_m_stands_j108 C E hKb h)
set_option maxHeartbeats 4000000 in
theorem c_m_stands {ad : AD} {ek : EK} {lh : Launch} {Dh : va_G} {S' : ST}  {S : ST} {l1 : Int32} {l2 : Int32} (h : m_stands S l1 l2 = some S') : MXv lh Dh ad ek (cM ad) yX12_stands cX12_stands 5 none 1 [.ref (ad.1 0), .int l1, .int l2] S S' := by
  refine mxv_of (by decide) (Nat.le_of_ble_eq_true rfl) (fun z C E => ?_)
  unfold m_stands at h
  exact x_aload_n C dX12_stands_0 rfl 0 rfl (x_iconst C dX12_stands_1 kc_0 (pM_X12_60 C u_5_140 dX12_stands_2 (x_iconst C dX12_stands_5 kc_0 (x_istore_n C dX12_stands_6 rfl (by decide) rfl (x_perm [1, 2, 3, 0] rfl (w_m_stands_h7 C E FU _ _ _ _ h))))))
set_option maxHeartbeats 4000000 in
theorem c_m_tells {ad : AD} {ek : EK} {lh : Launch} {Dh : va_G} {r : Int32} {S' : ST}  {S : ST} {l1 : Int32} {l2 : Int32} {l3 : Int32} {l4 : Int32} {l5 : Int32} {l6 : Int32} {l7 : Int32} {l8 : Int32} (h : m_tells S l1 l2 l3 l4 l5 l6 l7 l8 = some (r, S')) : MXi lh Dh ad ek (cM ad) yX12_tells cX12_tells 9 (some .int) 1 [.ref (ad.1 0), .int l1, .int l2, .int l3, .int l4, .int l5, .int l6, .int l7, .int l8] S r S' := by
  refine mxi_of (by decide) (Nat.le_of_ble_eq_true rfl) (fun z C E => ?_)
  unfold m_tells at h
  obtain ⟨g9, h⟩ := G_some h
  obtain ⟨g19, h⟩ := G_some h
  obtain ⟨g29, h⟩ := G_some h
  obtain ⟨g40, h⟩ := G_some h
  obtain ⟨g51, h⟩ := G_some h
  obtain ⟨g62, h⟩ := G_some h
  obtain ⟨g73, h⟩ := G_some h
  obtain ⟨g84, h⟩ := G_some h
  exact x_aload_n C dX12_tells_0 rfl 0 rfl (gM_X12_46 C u_5_126 dX12_tells_1 (x_aload_n C dX12_tells_4 rfl 0 rfl (gM_X12_45 C u_5_125 dX12_tells_5 (x_iload_n C dX12_tells_8 rfl 1 rfl (sM_28 C g9 dX12_tells_9 (x_aload_n C dX12_tells_10 rfl 0 rfl (gM_X12_47 C u_5_127 dX12_tells_11 (x_aload_n C dX12_tells_14 rfl 0 rfl (gM_X12_45 C u_5_125 dX12_tells_15 (x_iload_n C dX12_tells_18 rfl 2 rfl (sM_29 C g19 dX12_tells_19 (x_aload_n C dX12_tells_20 rfl 0 rfl (gM_X12_48 C u_5_128 dX12_tells_21 (x_aload_n C dX12_tells_24 rfl 0 rfl (gM_X12_45 C u_5_125 dX12_tells_25 (x_iload_n C dX12_tells_28 rfl 3 rfl (sM_30 C g29 dX12_tells_29 (x_aload_n C dX12_tells_30 rfl 0 rfl (gM_X12_49 C u_5_129 dX12_tells_31 (x_aload_n C dX12_tells_34 rfl 0 rfl (gM_X12_45 C u_5_125 dX12_tells_35 (x_iload C dX12_tells_38 4 rfl (sM_31 C g40 dX12_tells_40 (x_aload_n C dX12_tells_41 rfl 0 rfl (gM_X12_50 C u_5_130 dX12_tells_42 (x_aload_n C dX12_tells_45 rfl 0 rfl (gM_X12_45 C u_5_125 dX12_tells_46 (x_iload C dX12_tells_49 5 rfl (sM_32 C g51 dX12_tells_51 (x_aload_n C dX12_tells_52 rfl 0 rfl (gM_X12_51 C u_5_131 dX12_tells_53 (x_aload_n C dX12_tells_56 rfl 0 rfl (gM_X12_45 C u_5_125 dX12_tells_57 (x_iload C dX12_tells_60 6 rfl (sM_33 C g62 dX12_tells_62 (x_aload_n C dX12_tells_63 rfl 0 rfl (gM_X12_52 C u_5_132 dX12_tells_64 (x_aload_n C dX12_tells_67 rfl 0 rfl (gM_X12_45 C u_5_125 dX12_tells_68 (x_iload C dX12_tells_71 7 rfl (sM_34 C g73 dX12_tells_73 (x_aload_n C dX12_tells_74 rfl 0 rfl (gM_X12_53 C u_5_133 dX12_tells_75 (x_aload_n C dX12_tells_78 rfl 0 rfl (gM_X12_45 C u_5_125 dX12_tells_79 (x_iload C dX12_tells_82 8 rfl (sM_35 C g84 dX12_tells_84 (x_aload_n C dX12_tells_85 rfl 0 rfl (x_dup C dX12_tells_86 rfl (gM_X12_45 C u_5_125 dX12_tells_87 (x_iconst C dX12_tells_90 kc_1 (x_iadd C dX12_tells_91 (pM_X12_45 C u_5_125 dX12_tells_92 (x_aload_n C dX12_tells_95 rfl 0 rfl (gM_X12_45 C u_5_125 dX12_tells_96 (x_iconst C dX12_tells_99 kc_1 (x_isub C dX12_tells_100 (x_iret E h retI dX12_tells_101))))))))))))))))))))))))))))))))))))))))))))))))))))))))))
set_option maxHeartbeats 4000000 in
theorem w_m_termOf_j164 {z : ZT} {ad : AD} {ek : EK} {lh : Launch} {Dh : va_G} {r : Int32} {S' : ST} (C : CX z ad ek cX12_termOf RX12 lh Dh 1 8) (E : EI z (cM ad) cX12_termOf (some .int) r S') {Kb : ST → Int32 → Int32 → Int32 → Option (Int32 × ST)} (hKb : ∀ (S : ST) (l2 : Int32) (l3 : Int32) (l4 : Int32) , Kb S l2 l3 l4 = some (r, S') → XW z (cM ad) 10 [(0, .ref (ad.1 0)), (2, .int l2), (3, .int l3), (4, .int l4)] [] S) {S : ST} {l2 : Int32} {l3 : Int32} {l4 : Int32} (h : m_termOf_j164 Kb S l2 l3 l4 = some (r, S')) : XW z (cM ad) 164 [(0, .ref (ad.1 0)), (2, .int l2), (3, .int l3), (4, .int l4)] [] S := by
  unfold m_termOf_j164 at h
  exact x_iinc C dX12_termOf_164 3 rfl ki_1 (by decide) rfl (x_goto C (tgt := 10) dX12_termOf_167 (by decide) (x_perm [1, 2, 3, 0] rfl (hKb _ _ _ _ h)))
set_option maxHeartbeats 4000000 in
theorem w_m_termOf_j163 {z : ZT} {ad : AD} {ek : EK} {lh : Launch} {Dh : va_G} {r : Int32} {S' : ST} (C : CX z ad ek cX12_termOf RX12 lh Dh 1 8) (E : EI z (cM ad) cX12_termOf (some .int) r S') {Kb : ST → Int32 → Int32 → Int32 → Option (Int32 × ST)} (hKb : ∀ (S : ST) (l2 : Int32) (l3 : Int32) (l4 : Int32) , Kb S l2 l3 l4 = some (r, S') → XW z (cM ad) 10 [(0, .ref (ad.1 0)), (2, .int l2), (3, .int l3), (4, .int l4)] [] S) {S : ST} {l2 : Int32} {l3 : Int32} {l4 : Int32} {s0 : Int32} {s1 : Int32} (h : m_termOf_j163 Kb S l2 l3 l4 s0 s1 = some (r, S')) : XW z (cM ad) 163 [(0, .ref (ad.1 0)), (2, .int l2), (3, .int l3), (4, .int l4)] [.int s0, .int s1, .ref (ad.1 26)] S := by
  unfold m_termOf_j163 at h
  obtain ⟨g163, h⟩ := G_some h
  exact sM_26 C g163 dX12_termOf_163 (w_m_termOf_j164 C E hKb h)
set_option maxHeartbeats 4000000 in
theorem w_m_termOf_j109 {z : ZT} {ad : AD} {ek : EK} {lh : Launch} {Dh : va_G} {r : Int32} {S' : ST} (C : CX z ad ek cX12_termOf RX12 lh Dh 1 8) (E : EI z (cM ad) cX12_termOf (some .int) r S') {Kb : ST → Int32 → Int32 → Int32 → Option (Int32 × ST)} (hKb : ∀ (S : ST) (l2 : Int32) (l3 : Int32) (l4 : Int32) , Kb S l2 l3 l4 = some (r, S') → XW z (cM ad) 10 [(0, .ref (ad.1 0)), (2, .int l2), (3, .int l3), (4, .int l4)] [] S) {S : ST} {l2 : Int32} {l3 : Int32} {l4 : Int32} {l5 : Int32} {l6 : Int32} {l7 : Int32} (h : m_termOf_j109 Kb S l2 l3 l4 l5 l6 l7 = some (r, S')) : XW z (cM ad) 109 [(0, .ref (ad.1 0)), (2, .int l2), (3, .int l3), (4, .int l4), (5, .int l5), (6, .int l6), (7, .int l7)] [] S := by
  unfold m_termOf_j109 at h
  refine x_aload_n C dX12_termOf_109 rfl 0 rfl (gM_X12_40 C u_5_120 dX12_termOf_110 (x_iload_n C dX12_termOf_113 rfl 2 rfl (x_iconst C dX12_termOf_114 kc_1 (x_isub C dX12_termOf_115 (x_iload C dX12_termOf_116 4 rfl (x_iconst C dX12_termOf_118 kc_2 (x_icmp_ne C (tgt := 130) dX12_termOf_119 (by decide) (fun c => ?_) (fun c => ?_))))))))
  · have h := ite_f h c
    refine x_iload C dX12_termOf_130 4 rfl (x_iconst C dX12_termOf_132 kc_3 (x_icmp_ne C (tgt := 144) dX12_termOf_133 (by decide) (fun c => ?_) (fun c => ?_)))
    · have h := ite_f h c
      refine x_iload C dX12_termOf_144 4 rfl (x_iconst C dX12_termOf_146 kc_4 (x_icmp_ne C (tgt := 158) dX12_termOf_147 (by decide) (fun c => ?_) (fun c => ?_)))
      · have h := ite_f h c
        obtain ⟨g162, h⟩ := G_some h
        exact x_iload C dX12_termOf_158 5 rfl (x_iload C dX12_termOf_160 6 rfl (x_idiv C dX12_termOf_162 (of_decide_eq_true g162) (x_perm [0, 1, 2, 3] rfl (w_m_termOf_j163 C E hKb h))))
      · have h := ite_t h c
        exact x_iload C dX12_termOf_150 5 rfl (x_iload C dX12_termOf_152 6 rfl (x_imul C dX12_termOf_154 (x_goto C (tgt := 163) dX12_termOf_155 (by decide) (x_perm [0, 1, 2, 3] rfl (w_m_termOf_j163 C E hKb h)))))
    · have h := ite_t h c
      exact x_iload C dX12_termOf_136 5 rfl (x_iload C dX12_termOf_138 6 rfl (x_isub C dX12_termOf_140 (x_goto C (tgt := 163) dX12_termOf_141 (by decide) (x_perm [0, 1, 2, 3] rfl (w_m_termOf_j163 C E hKb h)))))
  · have h := ite_t h c
    exact x_iload C dX12_termOf_122 5 rfl (x_iload C dX12_termOf_124 6 rfl (x_iadd C dX12_termOf_126 (x_goto C (tgt := 163) dX12_termOf_127 (by decide) (x_perm [0, 1, 2, 3] rfl (w_m_termOf_j163 C E hKb h)))))
set_option maxHeartbeats 4000000 in
theorem w_m_termOf_j63 {z : ZT} {ad : AD} {ek : EK} {lh : Launch} {Dh : va_G} {r : Int32} {S' : ST} (C : CX z ad ek cX12_termOf RX12 lh Dh 1 8) (E : EI z (cM ad) cX12_termOf (some .int) r S') {Kb : ST → Int32 → Int32 → Int32 → Option (Int32 × ST)} (hKb : ∀ (S : ST) (l2 : Int32) (l3 : Int32) (l4 : Int32) , Kb S l2 l3 l4 = some (r, S') → XW z (cM ad) 10 [(0, .ref (ad.1 0)), (2, .int l2), (3, .int l3), (4, .int l4)] [] S) {S : ST} {l2 : Int32} {l3 : Int32} {l4 : Int32} {s0 : Int32} {s1 : Int32} (h : m_termOf_j63 Kb S l2 l3 l4 s0 s1 = some (r, S')) : XW z (cM ad) 63 [(0, .ref (ad.1 0)), (2, .int l2), (3, .int l3), (4, .int l4)] [.int s0, .int s1, .ref (ad.1 26)] S := by
  unfold m_termOf_j63 at h
  obtain ⟨g63, h⟩ := G_some h
  exact sM_26 C g63 dX12_termOf_63 (x_iinc C dX12_termOf_64 2 rfl ki_1 (by decide) rfl (x_goto C (tgt := 164) dX12_termOf_67 (by decide) (x_perm [1, 2, 0, 3] rfl (w_m_termOf_j164 C E hKb h))))
set_option maxHeartbeats 4000000 in
theorem w_m_termOf_h10 {z : ZT} {ad : AD} {ek : EK} {lh : Launch} {Dh : va_G} {r : Int32} {S' : ST} (C : CX z ad ek cX12_termOf RX12 lh Dh 1 8) (E : EI z (cM ad) cX12_termOf (some .int) r S') : ∀ (n : Nat) (S : ST) (l2 : Int32) (l3 : Int32) (l4 : Int32), m_termOf_h10 n S l2 l3 l4 = some (r, S') → XW z (cM ad) 10 [(0, .ref (ad.1 0)), (2, .int l2), (3, .int l3), (4, .int l4)] [] S := by
  intro n
  induction n with
  | zero => intro S l2 l3 l4 h; cases h
  | succ n ih =>
    intro S l2 l3 l4 h
    have hKb := ih
    refine x_iload C dX12_termOf_10 3 rfl (x_iload_n C dX12_termOf_12 rfl 1 rfl (x_icmp_ge C (tgt := 170) dX12_termOf_13 (by decide) (fun c => ?_) (fun c => ?_)))
    · have h := ite_t h c
      exact (by
        obtain ⟨g175, h⟩ := G_some h
        exact x_aload_n C dX12_termOf_170 rfl 0 rfl (gM_X12_40 C u_5_120 dX12_termOf_171 (x_iconst C dX12_termOf_174 kc_0 (aM_26 C g175 dX12_termOf_175 (x_iret E h retI dX12_termOf_176)))))
    · have h := ite_f h c
      obtain ⟨g22, h⟩ := G_some h
      refine x_aload_n C dX12_termOf_16 rfl 0 rfl (gM_X12_35 C u_5_115 dX12_termOf_17 (x_iload C dX12_termOf_20 3 rfl (aM_22 C g22 dX12_termOf_22 (x_istore C dX12_termOf_23 (by decide) rfl (x_iload C dX12_termOf_25 0 rfl (x_iconst C dX12_termOf_27 kc_2 (x_icmp_ge C (tgt := 70) dX12_termOf_28 (by decide) (fun c => ?_) (fun c => ?_))))))))
      · have h := ite_t h c
        obtain ⟨g80, h⟩ := G_some h
        obtain ⟨g88, h⟩ := G_some h
        refine x_iinc C dX12_termOf_70 3 rfl ki_m1 (by decide) rfl (x_aload_n C dX12_termOf_73 rfl 2 rfl (gM_X12_40 C u_5_120 dX12_termOf_74 (x_iload_n C dX12_termOf_77 rfl 0 rfl (x_iconst C dX12_termOf_78 kc_1 (x_isub C dX12_termOf_79 (aM_26 C g80 dX12_termOf_80 (x_istore C dX12_termOf_81 (by decide) rfl (x_aload_n C dX12_termOf_83 rfl 3 rfl (gM_X12_40 C u_5_120 dX12_termOf_84 (x_iload_n C dX12_termOf_87 rfl 1 rfl (aM_26 C g88 dX12_termOf_88 (x_istore C dX12_termOf_89 (by decide) rfl (x_iload C dX12_termOf_91 3 rfl (x_iconst C dX12_termOf_93 kc_5 (x_icmp_ne C (tgt := 109) dX12_termOf_94 (by decide) (fun c => ?_) (fun c => ?_))))))))))))))))
        · have h := ite_f h c
          exact x_perm [4, 5, 2, 6, 3, 1, 0] rfl (w_m_termOf_j109 C E hKb h)
        · have h := ite_t h c
          refine x_iload C dX12_termOf_97 0 rfl (x_if_ne C (tgt := 109) dX12_termOf_99 (by decide) (fun c => ?_) (fun c => ?_))
          · have h := ite_f h c
            exact x_perm [4, 5, 2, 6, 3, 1, 0] rfl (w_m_termOf_j109 C E hKb h)
          · have h := ite_t h c
            exact (by
              obtain ⟨g104, h⟩ := G_some h
              exact x_aload_n C dX12_termOf_102 rfl 4 rfl (x_iconst C dX12_termOf_103 kc_1 (pM_X12_41 C u_5_121 g104 dX12_termOf_104 (x_iconst C dX12_termOf_107 kc_0 (x_iret E h retI dX12_termOf_108)))))
      · have h := ite_f h c
        refine x_aload_n C dX12_termOf_31 rfl 1 rfl (gM_X12_40 C u_5_120 dX12_termOf_32 (x_iload_n C dX12_termOf_35 rfl 3 rfl (x_iload C dX12_termOf_36 0 rfl (x_if_ne C (tgt := 51) dX12_termOf_38 (by decide) (fun c => ?_) (fun c => ?_)))))
        · have h := ite_f h c
          obtain ⟨g61, h⟩ := G_some h
          obtain ⟨g62, h⟩ := G_some h
          exact x_aload_n C dX12_termOf_51 rfl 1 rfl (gM_X12_39 C u_5_119 dX12_termOf_52 (x_aload_n C dX12_termOf_55 rfl 1 rfl (gM_X12_36 C u_5_116 dX12_termOf_56 (x_iload C dX12_termOf_59 4 rfl (aM_23 C g61 dX12_termOf_61 (aM_25 C g62 dX12_termOf_62 (x_perm [1, 2, 3, 4] rfl (w_m_termOf_j63 C E hKb h))))))))
        · have h := ite_t h c
          obtain ⟨g47, h⟩ := G_some h
          exact x_aload_n C dX12_termOf_41 rfl 1 rfl (gM_X12_36 C u_5_116 dX12_termOf_42 (x_iload C dX12_termOf_45 4 rfl (aM_23 C g47 dX12_termOf_47 (x_goto C (tgt := 63) dX12_termOf_48 (by decide) (x_perm [1, 2, 3, 4] rfl (w_m_termOf_j63 C E hKb h))))))
set_option maxHeartbeats 4000000 in
theorem c_m_termOf {ad : AD} {ek : EK} {lh : Launch} {Dh : va_G} {r : Int32} {S' : ST}  {S : ST} {l1 : Int32} {l2 : Int32} (h : m_termOf S l1 l2 = some (r, S')) : MXi lh Dh ad ek (cM ad) yX12_termOf cX12_termOf 8 (some .int) 1 [.ref (ad.1 0), .int l1, .int l2] S r S' := by
  refine mxi_of (by decide) (Nat.le_of_ble_eq_true rfl) (fun z C E => ?_)
  unfold m_termOf at h
  obtain ⟨g4, h⟩ := G_some h
  exact x_iconst C dX12_termOf_0 kc_0 (x_istore_n C dX12_termOf_1 rfl (by decide) rfl (x_aload_n C dX12_termOf_2 rfl 1 rfl (x_iconst C dX12_termOf_3 kc_0 (pM_X12_41 C u_5_121 g4 dX12_termOf_4 (x_iload_n C dX12_termOf_7 rfl 2 rfl (x_istore C dX12_termOf_8 (by decide) rfl (x_perm [2, 4, 1, 0] rfl (w_m_termOf_h10 C E FU _ _ _ _ h))))))))
set_option maxHeartbeats 4000000 in
theorem c_m_token {ad : AD} {ek : EK} {lh : Launch} {Dh : va_G} {S' : ST}  {S : ST} {l1 : Int32} {l2 : Int32} {l3 : Int32} {l4 : Int64} (h : m_token S l1 l2 l3 l4 = some S') : MXv lh Dh ad ek (cM ad) yX12_token cX12_token 6 none 1 [.ref (ad.1 0), .int l1, .int l2, .int l3, .long l4] S S' := by
  refine mxv_of (by decide) (Nat.le_of_ble_eq_true rfl) (fun z C E => ?_)
  unfold m_token at h
  obtain ⟨g9, h⟩ := G_some h
  obtain ⟨g19, h⟩ := G_some h
  obtain ⟨g29, h⟩ := G_some h
  obtain ⟨g40, h⟩ := G_some h
  exact x_aload_n C dX12_token_0 rfl 0 rfl (gM_X12_5 C u_5_85 dX12_token_1 (x_aload_n C dX12_token_4 rfl 0 rfl (gM_X12_10 C u_5_90 dX12_token_5 (x_iload_n C dX12_token_8 rfl 1 rfl (sM_3 C g9 dX12_token_9 (x_aload_n C dX12_token_10 rfl 0 rfl (gM_X12_6 C u_5_86 dX12_token_11 (x_aload_n C dX12_token_14 rfl 0 rfl (gM_X12_10 C u_5_90 dX12_token_15 (x_iload_n C dX12_token_18 rfl 2 rfl (sM_4 C g19 dX12_token_19 (x_aload_n C dX12_token_20 rfl 0 rfl (gM_X12_7 C u_5_87 dX12_token_21 (x_aload_n C dX12_token_24 rfl 0 rfl (gM_X12_10 C u_5_90 dX12_token_25 (x_iload_n C dX12_token_28 rfl 3 rfl (sM_5 C g29 dX12_token_29 (x_aload_n C dX12_token_30 rfl 0 rfl (gM_X12_8 C u_5_88 dX12_token_31 (x_aload_n C dX12_token_34 rfl 0 rfl (gM_X12_10 C u_5_90 dX12_token_35 (x_lload C dX12_token_38 4 rfl (sM_6 C g40 dX12_token_40 (x_aload_n C dX12_token_41 rfl 0 rfl (x_dup C dX12_token_42 rfl (gM_X12_10 C u_5_90 dX12_token_43 (x_iconst C dX12_token_46 kc_1 (x_iadd C dX12_token_47 (pM_X12_10 C u_5_90 dX12_token_48 (x_vret E h dX12_token_51))))))))))))))))))))))))))))))
set_option maxHeartbeats 4000000 in
theorem c_m_wrong {ad : AD} {ek : EK} {lh : Launch} {Dh : va_G} {S' : ST}  {S : ST} {l1 : Int32} {l2 : Int32} (h : m_wrong S l1 l2 = some S') : MXv lh Dh ad ek (cM ad) yX12_wrong cX12_wrong 4 none 1 [.ref (ad.1 0), .int l1, .int l2] S S' := by
  refine mxv_of (by decide) (Nat.le_of_ble_eq_true rfl) (fun z C E => ?_)
  unfold m_wrong at h
  obtain ⟨g5, h⟩ := G_some h
  refine x_aload_n C dX12_wrong_0 rfl 0 rfl (gM_X12_6 C u_5_86 dX12_wrong_1 (x_iload_n C dX12_wrong_4 rfl 2 rfl (aM_4 C g5 dX12_wrong_5 (x_istore_n C dX12_wrong_6 rfl (by decide) rfl (x_aload_n C dX12_wrong_7 rfl 1 rfl (gM_X12_13 C u_5_93 dX12_wrong_8 (x_if_gt C (tgt := 45) dX12_wrong_11 (by decide) (fun c => ?_) (fun c => ?_))))))))
  · have h := ite_t h c
    exact x_vret E h dX12_wrong_45
  · have h := ite_f h c
    refine x_aload_n C dX12_wrong_14 rfl 1 rfl (gM_X12_15 C u_5_95 dX12_wrong_15 (x_if_eq C (tgt := 46) dX12_wrong_18 (by decide) (fun c => ?_) (fun c => ?_)))
    · have h := ite_t h c
      exact x_aload_n C dX12_wrong_46 rfl 1 rfl (x_iload_n C dX12_wrong_47 rfl 2 rfl (pM_X12_15 C u_5_95 dX12_wrong_48 (x_aload_n C dX12_wrong_51 rfl 1 rfl (x_iload_n C dX12_wrong_52 rfl 0 rfl (pM_X12_16 C u_5_96 dX12_wrong_53 (x_vret E h dX12_wrong_56))))))
    · have h := ite_f h c
      refine x_iload_n C dX12_wrong_21 rfl 0 rfl (x_aload_n C dX12_wrong_22 rfl 1 rfl (gM_X12_16 C u_5_96 dX12_wrong_23 (x_icmp_gt C (tgt := 45) dX12_wrong_26 (by decide) (fun c => ?_) (fun c => ?_))))
      · have h := ite_t h c
        exact x_vret E h dX12_wrong_45
      · have h := ite_f h c
        refine x_iload_n C dX12_wrong_29 rfl 0 rfl (x_aload_n C dX12_wrong_30 rfl 1 rfl (gM_X12_16 C u_5_96 dX12_wrong_31 (x_icmp_ne C (tgt := 46) dX12_wrong_34 (by decide) (fun c => ?_) (fun c => ?_))))
        · have h := ite_f h c
          exact x_aload_n C dX12_wrong_46 rfl 1 rfl (x_iload_n C dX12_wrong_47 rfl 2 rfl (pM_X12_15 C u_5_95 dX12_wrong_48 (x_aload_n C dX12_wrong_51 rfl 1 rfl (x_iload_n C dX12_wrong_52 rfl 0 rfl (pM_X12_16 C u_5_96 dX12_wrong_53 (x_vret E h dX12_wrong_56))))))
        · have h := ite_t h c
          refine x_iload_n C dX12_wrong_37 rfl 2 rfl (x_aload_n C dX12_wrong_38 rfl 1 rfl (gM_X12_15 C u_5_95 dX12_wrong_39 (x_icmp_lt C (tgt := 46) dX12_wrong_42 (by decide) (fun c => ?_) (fun c => ?_))))
          · have h := ite_t h c
            exact x_aload_n C dX12_wrong_46 rfl 1 rfl (x_iload_n C dX12_wrong_47 rfl 2 rfl (pM_X12_15 C u_5_95 dX12_wrong_48 (x_aload_n C dX12_wrong_51 rfl 1 rfl (x_iload_n C dX12_wrong_52 rfl 0 rfl (pM_X12_16 C u_5_96 dX12_wrong_53 (x_vret E h dX12_wrong_56))))))
          · have h := ite_f h c
            exact x_vret E h dX12_wrong_45
set_option maxHeartbeats 4000000 in
theorem w_m_apart_j240 {z : ZT} {ad : AD} {ek : EK} {lh : Launch} {Dh : va_G} {r : Int32} {S' : ST} (C : CX z ad ek cX12_apart RX12 lh Dh 2 6) (E : EI z (cM ad) cX12_apart (some .int) r S') {S : ST} {l1 : Int32} {l2 : Int32} (h : m_apart_j240 S l1 l2 = some (r, S')) : XW z (cM ad) 240 [(0, .ref (ad.1 0)), (1, .int l1), (2, .int l2)] [] S := by
  unfold m_apart_j240 at h
  obtain ⟨g251, h⟩ := G_some h
  obtain ⟨g258, h⟩ := G_some h
  obtain ⟨g260, h⟩ := G_some h
  exact x_aload_n C dX12_apart_240 rfl 0 rfl (gM_X12_64 C u_5_144 dX12_apart_241 (x_bipush C dX12_apart_244 kb_13 (x_aload_n C dX12_apart_246 rfl 0 rfl (gM_X12_63 C u_5_143 dX12_apart_247 (x_iload_n C dX12_apart_250 rfl 1 rfl (aM_38 C g251 dX12_apart_251 (x_imul C dX12_apart_252 (x_aload_n C dX12_apart_253 rfl 0 rfl (gM_X12_63 C u_5_143 dX12_apart_254 (x_iload_n C dX12_apart_257 rfl 2 rfl (aM_38 C g258 dX12_apart_258 (x_iadd C dX12_apart_259 (aM_39 C g260 dX12_apart_260 (x_iret E h retI dX12_apart_261))))))))))))))
set_option maxHeartbeats 4000000 in
theorem w_m_apart_j234 {z : ZT} {ad : AD} {ek : EK} {lh : Launch} {Dh : va_G} {r : Int32} {S' : ST} (C : CX z ad ek cX12_apart RX12 lh Dh 2 6) (E : EI z (cM ad) cX12_apart (some .int) r S') {Kb : ST → Int32 → Int32 → Int32 → Option (Int32 × ST)} (hKb : ∀ (S : ST) (l1 : Int32) (l2 : Int32) (l3 : Int32) , Kb S l1 l2 l3 = some (r, S') → XW z (cM ad) 22 [(0, .ref (ad.1 0)), (1, .int l1), (2, .int l2), (3, .int l3)] [] S) {K240 : ST → Int32 → Int32 → Option (Int32 × ST)} (hK240 : ∀ (S : ST) (l1 : Int32) (l2 : Int32) , K240 S l1 l2 = some (r, S') → XW z (cM ad) 240 [(0, .ref (ad.1 0)), (1, .int l1), (2, .int l2)] [] S) {S : ST} {l1 : Int32} {l2 : Int32} {l3 : Int32} (h : m_apart_j234 Kb K240 S l1 l2 l3 = some (r, S')) : XW z (cM ad) 234 [(0, .ref (ad.1 0)), (1, .int l1), (2, .int l2), (3, .int l3)] [] S := by
  unfold m_apart_j234 at h
  exact x_iinc C dX12_apart_234 3 rfl ki_1 (by decide) rfl (x_goto C (tgt := 22) dX12_apart_237 (by decide) (x_perm [1, 2, 3, 0] rfl (hKb _ _ _ _ h)))
set_option maxHeartbeats 4000000 in
theorem w_m_apart_j214 {z : ZT} {ad : AD} {ek : EK} {lh : Launch} {Dh : va_G} {r : Int32} {S' : ST} (C : CX z ad ek cX12_apart RX12 lh Dh 2 6) (E : EI z (cM ad) cX12_apart (some .int) r S') {Kb : ST → Int32 → Int32 → Int32 → Int32 → Option (Int32 × ST)} (hKb : ∀ (S : ST) (l1 : Int32) (l2 : Int32) (l3 : Int32) (l4 : Int32) , Kb S l1 l2 l3 l4 = some (r, S') → XW z (cM ad) 35 [(0, .ref (ad.1 0)), (1, .int l1), (2, .int l2), (3, .int l3), (4, .int l4)] [] S) {K234 : ST → Int32 → Int32 → Int32 → Option (Int32 × ST)} (hK234 : ∀ (S : ST) (l1 : Int32) (l2 : Int32) (l3 : Int32) , K234 S l1 l2 l3 = some (r, S') → XW z (cM ad) 234 [(0, .ref (ad.1 0)), (1, .int l1), (2, .int l2), (3, .int l3)] [] S) {S : ST} {l1 : Int32} {l2 : Int32} {l3 : Int32} {l4 : Int32} {l5 : Int32} (h : m_apart_j214 Kb K234 S l1 l2 l3 l4 l5 = some (r, S')) : XW z (cM ad) 214 [(0, .ref (ad.1 0)), (1, .int l1), (2, .int l2), (3, .int l3), (4, .int l4), (5, .int l5)] [] S := by
  unfold m_apart_j214 at h
  obtain ⟨g227, h⟩ := G_some h
  exact x_aload_n C dX12_apart_214 rfl 0 rfl (gM_X12_64 C u_5_144 dX12_apart_215 (x_bipush C dX12_apart_218 kb_13 (x_iload_n C dX12_apart_220 rfl 3 rfl (x_imul C dX12_apart_221 (x_iload C dX12_apart_222 4 rfl (x_iadd C dX12_apart_224 (x_iload C dX12_apart_225 5 rfl (sM_39 C g227 dX12_apart_227 (x_iinc C dX12_apart_228 4 rfl ki_1 (by decide) rfl (x_goto C (tgt := 35) dX12_apart_231 (by decide) (x_perm [1, 2, 3, 4, 0] rfl (hKb _ _ _ _ _ h))))))))))))
set_option maxHeartbeats 4000000 in
theorem w_m_apart_j166 {z : ZT} {ad : AD} {ek : EK} {lh : Launch} {Dh : va_G} {r : Int32} {S' : ST} (C : CX z ad ek cX12_apart RX12 lh Dh 2 6) (E : EI z (cM ad) cX12_apart (some .int) r S') {Kb : ST → Int32 → Int32 → Int32 → Int32 → Option (Int32 × ST)} (hKb : ∀ (S : ST) (l1 : Int32) (l2 : Int32) (l3 : Int32) (l4 : Int32) , Kb S l1 l2 l3 l4 = some (r, S') → XW z (cM ad) 35 [(0, .ref (ad.1 0)), (1, .int l1), (2, .int l2), (3, .int l3), (4, .int l4)] [] S) {K234 : ST → Int32 → Int32 → Int32 → Option (Int32 × ST)} (hK234 : ∀ (S : ST) (l1 : Int32) (l2 : Int32) (l3 : Int32) , K234 S l1 l2 l3 = some (r, S') → XW z (cM ad) 234 [(0, .ref (ad.1 0)), (1, .int l1), (2, .int l2), (3, .int l3)] [] S) {S : ST} {l1 : Int32} {l2 : Int32} {l3 : Int32} {l4 : Int32} {l5 : Int32} (h : m_apart_j166 Kb K234 S l1 l2 l3 l4 l5 = some (r, S')) : XW z (cM ad) 166 [(0, .ref (ad.1 0)), (1, .int l1), (2, .int l2), (3, .int l3), (4, .int l4), (5, .int l5)] [] S := by
  unfold m_apart_j166 at h
  refine x_iload_n C dX12_apart_166 rfl 3 rfl (x_if_le C (tgt := 214) dX12_apart_167 (by decide) (fun c => ?_) (fun c => ?_))
  · have h := ite_t h c
    exact w_m_apart_j214 C E hKb hK234 h
  · have h := ite_f h c
    refine x_iload C dX12_apart_170 4 rfl (x_if_le C (tgt := 214) dX12_apart_172 (by decide) (fun c => ?_) (fun c => ?_))
    · have h := ite_t h c
      exact w_m_apart_j214 C E hKb hK234 h
    · have h := ite_f h c
      obtain ⟨g188, h⟩ := G_some h
      refine x_aload_n C dX12_apart_175 rfl 0 rfl (gM_X12_64 C u_5_144 dX12_apart_176 (x_bipush C dX12_apart_179 kb_13 (x_iload_n C dX12_apart_181 rfl 3 rfl (x_imul C dX12_apart_182 (x_iload C dX12_apart_183 4 rfl (x_iadd C dX12_apart_185 (x_iconst C dX12_apart_186 kc_1 (x_isub C dX12_apart_187 (aM_39 C g188 dX12_apart_188 (x_iconst C dX12_apart_189 kc_1 (x_iadd C dX12_apart_190 (x_iload C dX12_apart_191 5 rfl (x_icmp_ge C (tgt := 214) dX12_apart_193 (by decide) (fun c => ?_) (fun c => ?_))))))))))))))
      · have h := ite_t h c
        exact w_m_apart_j214 C E hKb hK234 h
      · have h := ite_f h c
        obtain ⟨g209, h⟩ := G_some h
        exact x_aload_n C dX12_apart_196 rfl 0 rfl (gM_X12_64 C u_5_144 dX12_apart_197 (x_bipush C dX12_apart_200 kb_13 (x_iload_n C dX12_apart_202 rfl 3 rfl (x_imul C dX12_apart_203 (x_iload C dX12_apart_204 4 rfl (x_iadd C dX12_apart_206 (x_iconst C dX12_apart_207 kc_1 (x_isub C dX12_apart_208 (aM_39 C g209 dX12_apart_209 (x_iconst C dX12_apart_210 kc_1 (x_iadd C dX12_apart_211 (x_istore C dX12_apart_212 (by decide) rfl (x_perm [1, 2, 3, 4, 5, 0] rfl (w_m_apart_j214 C E hKb hK234 h))))))))))))))
set_option maxHeartbeats 4000000 in
theorem w_m_apart_j116 {z : ZT} {ad : AD} {ek : EK} {lh : Launch} {Dh : va_G} {r : Int32} {S' : ST} (C : CX z ad ek cX12_apart RX12 lh Dh 2 6) (E : EI z (cM ad) cX12_apart (some .int) r S') {Kb : ST → Int32 → Int32 → Int32 → Int32 → Option (Int32 × ST)} (hKb : ∀ (S : ST) (l1 : Int32) (l2 : Int32) (l3 : Int32) (l4 : Int32) , Kb S l1 l2 l3 l4 = some (r, S') → XW z (cM ad) 35 [(0, .ref (ad.1 0)), (1, .int l1), (2, .int l2), (3, .int l3), (4, .int l4)] [] S) {K234 : ST → Int32 → Int32 → Int32 → Option (Int32 × ST)} (hK234 : ∀ (S : ST) (l1 : Int32) (l2 : Int32) (l3 : Int32) , K234 S l1 l2 l3 = some (r, S') → XW z (cM ad) 234 [(0, .ref (ad.1 0)), (1, .int l1), (2, .int l2), (3, .int l3)] [] S) {S : ST} {l1 : Int32} {l2 : Int32} {l3 : Int32} {l4 : Int32} {s0 : Int32} (h : m_apart_j116 Kb K234 S l1 l2 l3 l4 s0 = some (r, S')) : XW z (cM ad) 116 [(0, .ref (ad.1 0)), (1, .int l1), (2, .int l2), (3, .int l3), (4, .int l4)] [.int s0] S := by
  unfold m_apart_j116 at h
  refine x_istore C dX12_apart_116 (by decide) rfl (x_iload_n C dX12_apart_118 rfl 4 rfl (x_if_le C (tgt := 166) dX12_apart_119 (by decide) (fun c => ?_) (fun c => ?_)))
  · have h := ite_t h c
    exact x_perm [1, 2, 3, 4, 5, 0] rfl (w_m_apart_j166 C E hKb hK234 h)
  · have h := ite_f h c
    refine x_iload C dX12_apart_122 5 rfl (x_if_le C (tgt := 166) dX12_apart_124 (by decide) (fun c => ?_) (fun c => ?_))
    · have h := ite_t h c
      exact x_perm [1, 2, 3, 4, 5, 0] rfl (w_m_apart_j166 C E hKb hK234 h)
    · have h := ite_f h c
      obtain ⟨g140, h⟩ := G_some h
      refine x_aload_n C dX12_apart_127 rfl 1 rfl (gM_X12_64 C u_5_144 dX12_apart_128 (x_bipush C dX12_apart_131 kb_13 (x_iload_n C dX12_apart_133 rfl 4 rfl (x_iconst C dX12_apart_134 kc_1 (x_isub C dX12_apart_135 (x_imul C dX12_apart_136 (x_iload C dX12_apart_137 5 rfl (x_iadd C dX12_apart_139 (aM_39 C g140 dX12_apart_140 (x_iconst C dX12_apart_141 kc_1 (x_iadd C dX12_apart_142 (x_iload C dX12_apart_143 0 rfl (x_icmp_ge C (tgt := 166) dX12_apart_145 (by decide) (fun c => ?_) (fun c => ?_))))))))))))))
      · have h := ite_t h c
        exact x_perm [1, 2, 3, 4, 5, 0] rfl (w_m_apart_j166 C E hKb hK234 h)
      · have h := ite_f h c
        obtain ⟨g161, h⟩ := G_some h
        exact x_aload_n C dX12_apart_148 rfl 1 rfl (gM_X12_64 C u_5_144 dX12_apart_149 (x_bipush C dX12_apart_152 kb_13 (x_iload_n C dX12_apart_154 rfl 4 rfl (x_iconst C dX12_apart_155 kc_1 (x_isub C dX12_apart_156 (x_imul C dX12_apart_157 (x_iload C dX12_apart_158 5 rfl (x_iadd C dX12_apart_160 (aM_39 C g161 dX12_apart_161 (x_iconst C dX12_apart_162 kc_1 (x_iadd C dX12_apart_163 (x_istore C dX12_apart_164 (by decide) rfl (x_perm [1, 2, 3, 4, 5, 0] rfl (w_m_apart_j166 C E hKb hK234 h))))))))))))))
set_option maxHeartbeats 4000000 in
theorem w_m_apart_j115 {z : ZT} {ad : AD} {ek : EK} {lh : Launch} {Dh : va_G} {r : Int32} {S' : ST} (C : CX z ad ek cX12_apart RX12 lh Dh 2 6) (E : EI z (cM ad) cX12_apart (some .int) r S') {Kb : ST → Int32 → Int32 → Int32 → Int32 → Option (Int32 × ST)} (hKb : ∀ (S : ST) (l1 : Int32) (l2 : Int32) (l3 : Int32) (l4 : Int32) , Kb S l1 l2 l3 l4 = some (r, S') → XW z (cM ad) 35 [(0, .ref (ad.1 0)), (1, .int l1), (2, .int l2), (3, .int l3), (4, .int l4)] [] S) {K234 : ST → Int32 → Int32 → Int32 → Option (Int32 × ST)} (hK234 : ∀ (S : ST) (l1 : Int32) (l2 : Int32) (l3 : Int32) , K234 S l1 l2 l3 = some (r, S') → XW z (cM ad) 234 [(0, .ref (ad.1 0)), (1, .int l1), (2, .int l2), (3, .int l3)] [] S) {S : ST} {l1 : Int32} {l2 : Int32} {l3 : Int32} {l4 : Int32} {s0 : Int32} {s1 : Int32} (h : m_apart_j115 Kb K234 S l1 l2 l3 l4 s0 s1 = some (r, S')) : XW z (cM ad) 115 [(0, .ref (ad.1 0)), (1, .int l1), (2, .int l2), (3, .int l3), (4, .int l4)] [.int s0, .int s1] S := by
  unfold m_apart_j115 at h
  exact x_iadd C dX12_apart_115 (w_m_apart_j116 C E hKb hK234 h)
set_option maxHeartbeats 4000000 in
theorem w_m_apart_h35 {z : ZT} {ad : AD} {ek : EK} {lh : Launch} {Dh : va_G} {r : Int32} {S' : ST} (C : CX z ad ek cX12_apart RX12 lh Dh 2 6) (E : EI z (cM ad) cX12_apart (some .int) r S') {K234 : ST → Int32 → Int32 → Int32 → Option (Int32 × ST)} (hK234 : ∀ (S : ST) (l1 : Int32) (l2 : Int32) (l3 : Int32) , K234 S l1 l2 l3 = some (r, S') → XW z (cM ad) 234 [(0, .ref (ad.1 0)), (1, .int l1), (2, .int l2), (3, .int l3)] [] S) : ∀ (n : Nat) (S : ST) (l1 : Int32) (l2 : Int32) (l3 : Int32) (l4 : Int32), m_apart_h35 K234 n S l1 l2 l3 l4 = some (r, S') → XW z (cM ad) 35 [(0, .ref (ad.1 0)), (1, .int l1), (2, .int l2), (3, .int l3), (4, .int l4)] [] S := by
  intro n
  induction n with
  | zero => intro S l1 l2 l3 l4 h; cases h
  | succ n ih =>
    intro S l1 l2 l3 l4 h
    have hKb := ih
    obtain ⟨g42, h⟩ := G_some h
    refine x_iload C dX12_apart_35 4 rfl (x_aload_n C dX12_apart_37 rfl 0 rfl (gM_X12_63 C u_5_143 dX12_apart_38 (x_iload_n C dX12_apart_41 rfl 2 rfl (aM_38 C g42 dX12_apart_42 (x_icmp_gt C (tgt := 234) dX12_apart_43 (by decide) (fun c => ?_) (fun c => ?_))))))
    · have h := ite_t h c
      exact x_perm [0, 1, 2, 3] rfl (hK234 _ _ _ _ h)
    · have h := ite_f h c
      refine x_iload_n C dX12_apart_46 rfl 3 rfl (x_if_ne C (tgt := 55) dX12_apart_47 (by decide) (fun c => ?_) (fun c => ?_))
      · have h := ite_f h c
        refine x_iload C dX12_apart_55 4 rfl (x_if_ne C (tgt := 64) dX12_apart_57 (by decide) (fun c => ?_) (fun c => ?_))
        · have h := ite_f h c
          obtain ⟨g79, h⟩ := G_some h
          obtain ⟨g92, h⟩ := G_some h
          obtain ⟨g106, h⟩ := G_some h
          refine x_aload_n C dX12_apart_64 rfl 0 rfl (gM_X12_64 C u_5_144 dX12_apart_65 (x_bipush C dX12_apart_68 kb_13 (x_iload_n C dX12_apart_70 rfl 3 rfl (x_iconst C dX12_apart_71 kc_1 (x_isub C dX12_apart_72 (x_imul C dX12_apart_73 (x_iload C dX12_apart_74 4 rfl (x_iadd C dX12_apart_76 (x_iconst C dX12_apart_77 kc_1 (x_isub C dX12_apart_78 (aM_39 C g79 dX12_apart_79 (x_aload_n C dX12_apart_80 rfl 0 rfl (gM_X12_62 C u_5_142 dX12_apart_81 (x_bipush C dX12_apart_84 kb_12 (x_iload_n C dX12_apart_86 rfl 1 rfl (x_imul C dX12_apart_87 (x_iload_n C dX12_apart_88 rfl 3 rfl (x_iadd C dX12_apart_89 (x_iconst C dX12_apart_90 kc_1 (x_isub C dX12_apart_91 (aM_37 C g92 dX12_apart_92 (x_aload_n C dX12_apart_93 rfl 0 rfl (gM_X12_62 C u_5_142 dX12_apart_94 (x_bipush C dX12_apart_97 kb_12 (x_iload_n C dX12_apart_99 rfl 2 rfl (x_imul C dX12_apart_100 (x_iload C dX12_apart_101 4 rfl (x_iadd C dX12_apart_103 (x_iconst C dX12_apart_104 kc_1 (x_isub C dX12_apart_105 (aM_37 C g106 dX12_apart_106 (x_icmp_ne C (tgt := 114) dX12_apart_107 (by decide) (fun c => ?_) (fun c => ?_)))))))))))))))))))))))))))))))))
          · have h := ite_f h c
            exact x_iconst C dX12_apart_114 kc_1 (w_m_apart_j115 C E hKb hK234 h)
          · have h := ite_t h c
            exact x_iconst C dX12_apart_110 kc_0 (x_goto C (tgt := 115) dX12_apart_111 (by decide) (w_m_apart_j115 C E hKb hK234 h))
        · have h := ite_t h c
          exact x_iload_n C dX12_apart_60 rfl 3 rfl (x_goto C (tgt := 116) dX12_apart_61 (by decide) (w_m_apart_j116 C E hKb hK234 h))
      · have h := ite_t h c
        exact x_iload C dX12_apart_50 4 rfl (x_goto C (tgt := 116) dX12_apart_52 (by decide) (w_m_apart_j116 C E hKb hK234 h))
set_option maxHeartbeats 4000000 in
theorem w_m_apart_h22 {z : ZT} {ad : AD} {ek : EK} {lh : Launch} {Dh : va_G} {r : Int32} {S' : ST} (C : CX z ad ek cX12_apart RX12 lh Dh 2 6) (E : EI z (cM ad) cX12_apart (some .int) r S') {K240 : ST → Int32 → Int32 → Option (Int32 × ST)} (hK240 : ∀ (S : ST) (l1 : Int32) (l2 : Int32) , K240 S l1 l2 = some (r, S') → XW z (cM ad) 240 [(0, .ref (ad.1 0)), (1, .int l1), (2, .int l2)] [] S) : ∀ (n : Nat) (S : ST) (l1 : Int32) (l2 : Int32) (l3 : Int32), m_apart_h22 K240 n S l1 l2 l3 = some (r, S') → XW z (cM ad) 22 [(0, .ref (ad.1 0)), (1, .int l1), (2, .int l2), (3, .int l3)] [] S := by
  intro n
  induction n with
  | zero => intro S l1 l2 l3 h; cases h
  | succ n ih =>
    intro S l1 l2 l3 h
    have hKb := ih
    obtain ⟨g28, h⟩ := G_some h
    refine x_iload_n C dX12_apart_22 rfl 3 rfl (x_aload_n C dX12_apart_23 rfl 0 rfl (gM_X12_63 C u_5_143 dX12_apart_24 (x_iload_n C dX12_apart_27 rfl 1 rfl (aM_38 C g28 dX12_apart_28 (x_icmp_gt C (tgt := 240) dX12_apart_29 (by decide) (fun c => ?_) (fun c => ?_))))))
    · have h := ite_t h c
      exact x_perm [0, 1, 2] rfl (hK240 _ _ _ h)
    · have h := ite_f h c
      exact x_iconst C dX12_apart_32 kc_0 (x_istore C dX12_apart_33 (by decide) rfl (x_perm [1, 2, 3, 4, 0] rfl (w_m_apart_h35 C E (fun _ _ _ _ h => w_m_apart_j234 C E hKb hK240 h) FU _ _ _ _ _ h)))
set_option maxHeartbeats 4000000 in
theorem c_m_apart {ad : AD} {ek : EK} {lh : Launch} {Dh : va_G} {r : Int32} {S' : ST}  {S : ST} {l1 : Int32} {l2 : Int32} (h : m_apart S l1 l2 = some (r, S')) : MXi lh Dh ad ek (cM ad) yX12_apart cX12_apart 6 (some .int) 2 [.ref (ad.1 0), .int l1, .int l2] S r S' := by
  refine mxi_of (by decide) (Nat.le_of_ble_eq_true rfl) (fun z C E => ?_)
  unfold m_apart at h
  obtain ⟨r3, e3, h⟩ := cal0_some h
  refine x_iload_n C dX12_apart_0 rfl 1 rfl (x_iconst C dX12_apart_1 kc_0 (x_iconst C dX12_apart_2 kc_2 (x_callSi C (c_m_in e3) k_X12_288 (by decide) (Nat.le_of_ble_eq_true rfl) rfl dX12_apart_3 (x_if_eq C (tgt := 18) dX12_apart_6 (by decide) (fun c => ?_) (fun c => ?_)))))
  · have h := ite_t h c
    exact x_iconst C dX12_apart_18 kc_m1 (x_iret E h retI dX12_apart_19)
  · have h := ite_f h c
    obtain ⟨r12, e12, h⟩ := cal0_some h
    refine x_iload_n C dX12_apart_9 rfl 2 rfl (x_iconst C dX12_apart_10 kc_0 (x_iconst C dX12_apart_11 kc_2 (x_callSi C (c_m_in e12) k_X12_288 (by decide) (Nat.le_of_ble_eq_true rfl) rfl dX12_apart_12 (x_if_ne C (tgt := 20) dX12_apart_15 (by decide) (fun c => ?_) (fun c => ?_)))))
    · have h := ite_f h c
      exact x_iconst C dX12_apart_20 kc_0 (x_istore_n C dX12_apart_21 rfl (by decide) rfl (x_perm [1, 2, 3, 0] rfl (w_m_apart_h22 C E (fun _ _ _ h => w_m_apart_j240 C E  h) FU _ _ _ _ h)))
    · have h := ite_t h c
      exact x_iconst C dX12_apart_18 kc_m1 (x_iret E h retI dX12_apart_19)
