noncomputable def m_in (l0 : Int32) (l1 : Int32) (l2 : Int32) : Option Int32 :=
  if l0 < l1 then (some 0) else (if l2 < l0 then (some 0) else (some 1))
noncomputable def m_latest_j90 (Kb : ST → Int32 → Int32 → Int32 → Int32 → Int32 → Int32 → Option (Int32 × ST)) (S : ST) (l1 : Int32) (l2 : Int32) (l3 : Int32) (l4 : Int32) (l5 : Int32) (l6 : Int32) : Option (Int32 × ST) :=
  let v90 := l6 + 1
  Kb S l1 l2 l3 l4 l5 v90
noncomputable def m_latest_j86 (Kb : ST → Int32 → Int32 → Int32 → Int32 → Int32 → Int32 → Option (Int32 × ST)) (S : ST) (l1 : Int32) (l2 : Int32) (l3 : Int32) (l4 : Int32) (l6 : Int32) : Option (Int32 × ST) :=
  m_latest_j90 Kb S l1 l2 l3 l4 l6 l6
noncomputable def m_latest_j56 (Kb : ST → Int32 → Int32 → Int32 → Int32 → Int32 → Int32 → Option (Int32 × ST)) (S : ST) (l1 : Int32) (l2 : Int32) (l3 : Int32) (l4 : Int32) (l5 : Int32) (l6 : Int32) (s0 : Int32) : Option (Int32 × ST) :=
  if s0 = l2 then (if l5 = (-1) then (m_latest_j86 Kb S l1 l2 l3 l4 l6) else (G (inb l6 180) <|
  G (inb l5 180) <|
  if (S.2.1 25 (l6).toNatClampNeg) < (S.2.1 25 (l5).toNatClampNeg) then (m_latest_j90 Kb S l1 l2 l3 l4 l5 l6) else (m_latest_j86 Kb S l1 l2 l3 l4 l6))) else (m_latest_j90 Kb S l1 l2 l3 l4 l5 l6)
noncomputable def m_latest_h6 : Nat → ST → Int32 → Int32 → Int32 → Int32 → Int32 → Int32 → Option (Int32 × ST)
  | 0, _, _, _, _, _, _, _ => none
  | n + 1, S, l1, l2, l3, l4, l5, l6 =>
    if l4 ≤ l6 then (some (l5, S)) else (G (inb l6 180) <|
    if (S.2.1 24 (l6).toNatClampNeg) = 1 then (G (inb l6 180) <|
    if l3 < (S.2.1 25 (l6).toNatClampNeg) then (m_latest_j90 (m_latest_h6 n) S l1 l2 l3 l4 l5 l6) else (if l1 = 0 then (G (inb l6 180) <|
    m_latest_j56 (m_latest_h6 n) S l1 l2 l3 l4 l5 l6 ((S.2.1 26 (l6).toNatClampNeg))) else (G (inb l6 180) <|
    m_latest_j56 (m_latest_h6 n) S l1 l2 l3 l4 l5 l6 ((S.2.1 27 (l6).toNatClampNeg))))) else (m_latest_j90 (m_latest_h6 n) S l1 l2 l3 l4 l5 l6))
noncomputable def m_latest (S : ST) (l1 : Int32) (l2 : Int32) (l3 : Int32) (l4 : Int32) : Option (Int32 × ST) :=
  m_latest_h6 FU S l1 l2 l3 l4 (-1) 0
noncomputable def m_whoIn (S : ST) (l1 : Int32) (l2 : Int32) (l3 : Int32) : Option (Int32 × ST) :=
  cal (m_latest S 1 l1 l2 l3) fun r5 S5 =>
  if r5 = (-1) then (some ((-1), S5)) else (G (inb r5 180) <|
  cal (m_latest S5 0 ((S5.2.1 26 (r5).toNatClampNeg)) l2 l3) fun r29 S29 =>
  G (inb r29 180) <|
  if (S29.2.1 27 (r29).toNatClampNeg) = l1 then (G (inb r5 180) <|
  some ((S29.2.1 26 (r5).toNatClampNeg), S29)) else (some ((-1), S29)))
set_option maxHeartbeats 4000000 in
theorem c_m_in {ad : AD} {ek : EK} {lh : Launch} {Dh : va_G} {w : ST → va_W} {S0 : ST} {r : Int32} {l0 : Int32} {l1 : Int32} {l2 : Int32} (h : m_in l0 l1 l2 = some r) : MXi lh Dh ad ek w yX12_in cX12_in 3 (some .boolean) 1 [.int l0, .int l1, .int l2] S0 r S0 := by
  refine mxi_of (by decide) (Nat.le_of_ble_eq_true rfl) (fun z C E => ?_)
  unfold m_in at h
  refine x_iload_n C dX12_in_0 rfl 0 rfl (x_iload_n C dX12_in_1 rfl 1 rfl (x_icmp_lt C (tgt := 14) dX12_in_2 (by decide) (fun c => ?_) (fun c => ?_)))
  · have h := ite_t h c
    exact x_iconst C dX12_in_14 kc_0 (x_iret0 E h (retB rfl) dX12_in_15)
  · have h := ite_f h c
    refine x_iload_n C dX12_in_5 rfl 0 rfl (x_iload_n C dX12_in_6 rfl 2 rfl (x_icmp_gt C (tgt := 14) dX12_in_7 (by decide) (fun c => ?_) (fun c => ?_)))
    · have h := ite_t h c
      exact x_iconst C dX12_in_14 kc_0 (x_iret0 E h (retB rfl) dX12_in_15)
    · have h := ite_f h c
      exact x_iconst C dX12_in_10 kc_1 (x_goto C (tgt := 15) dX12_in_11 (by decide) (x_iret0 E h (retB rfl) dX12_in_15))
set_option maxHeartbeats 4000000 in
theorem w_m_latest_j90 {z : ZT} {ad : AD} {ek : EK} {lh : Launch} {Dh : va_G} {r : Int32} {S' : ST} (C : CX z ad ek cX12_latest RX12 lh Dh 1 7) (E : EI z (cM ad) cX12_latest (some .int) r S') {Kb : ST → Int32 → Int32 → Int32 → Int32 → Int32 → Int32 → Option (Int32 × ST)} (hKb : ∀ (S : ST) (l1 : Int32) (l2 : Int32) (l3 : Int32) (l4 : Int32) (l5 : Int32) (l6 : Int32) , Kb S l1 l2 l3 l4 l5 l6 = some (r, S') → XW z (cM ad) 6 [(0, .ref (ad.1 0)), (1, .int l1), (2, .int l2), (3, .int l3), (4, .int l4), (5, .int l5), (6, .int l6)] [] S) {S : ST} {l1 : Int32} {l2 : Int32} {l3 : Int32} {l4 : Int32} {l5 : Int32} {l6 : Int32} (h : m_latest_j90 Kb S l1 l2 l3 l4 l5 l6 = some (r, S')) : XW z (cM ad) 90 [(0, .ref (ad.1 0)), (1, .int l1), (2, .int l2), (3, .int l3), (4, .int l4), (5, .int l5), (6, .int l6)] [] S := by
  unfold m_latest_j90 at h
  exact x_iinc C dX12_latest_90 6 rfl ki_1 (by decide) rfl (x_goto C (tgt := 6) dX12_latest_93 (by decide) (x_perm [1, 2, 3, 4, 5, 6, 0] rfl (hKb _ _ _ _ _ _ _ h)))
set_option maxHeartbeats 4000000 in
theorem w_m_latest_j86 {z : ZT} {ad : AD} {ek : EK} {lh : Launch} {Dh : va_G} {r : Int32} {S' : ST} (C : CX z ad ek cX12_latest RX12 lh Dh 1 7) (E : EI z (cM ad) cX12_latest (some .int) r S') {Kb : ST → Int32 → Int32 → Int32 → Int32 → Int32 → Int32 → Option (Int32 × ST)} (hKb : ∀ (S : ST) (l1 : Int32) (l2 : Int32) (l3 : Int32) (l4 : Int32) (l5 : Int32) (l6 : Int32) , Kb S l1 l2 l3 l4 l5 l6 = some (r, S') → XW z (cM ad) 6 [(0, .ref (ad.1 0)), (1, .int l1), (2, .int l2), (3, .int l3), (4, .int l4), (5, .int l5), (6, .int l6)] [] S) {S : ST} {l1 : Int32} {l2 : Int32} {l3 : Int32} {l4 : Int32} {l6 : Int32} (h : m_latest_j86 Kb S l1 l2 l3 l4 l6 = some (r, S')) : XW z (cM ad) 86 [(0, .ref (ad.1 0)), (1, .int l1), (2, .int l2), (3, .int l3), (4, .int l4), (6, .int l6)] [] S := by
  unfold m_latest_j86 at h
  exact x_iload C dX12_latest_86 5 rfl (x_istore C dX12_latest_88 (by decide) rfl (x_perm [1, 2, 3, 4, 5, 0, 6] rfl (w_m_latest_j90 C E hKb h)))
set_option maxHeartbeats 4000000 in
theorem w_m_latest_j56 {z : ZT} {ad : AD} {ek : EK} {lh : Launch} {Dh : va_G} {r : Int32} {S' : ST} (C : CX z ad ek cX12_latest RX12 lh Dh 1 7) (E : EI z (cM ad) cX12_latest (some .int) r S') {Kb : ST → Int32 → Int32 → Int32 → Int32 → Int32 → Int32 → Option (Int32 × ST)} (hKb : ∀ (S : ST) (l1 : Int32) (l2 : Int32) (l3 : Int32) (l4 : Int32) (l5 : Int32) (l6 : Int32) , Kb S l1 l2 l3 l4 l5 l6 = some (r, S') → XW z (cM ad) 6 [(0, .ref (ad.1 0)), (1, .int l1), (2, .int l2), (3, .int l3), (4, .int l4), (5, .int l5), (6, .int l6)] [] S) {S : ST} {l1 : Int32} {l2 : Int32} {l3 : Int32} {l4 : Int32} {l5 : Int32} {l6 : Int32} {s0 : Int32} (h : m_latest_j56 Kb S l1 l2 l3 l4 l5 l6 s0 = some (r, S')) : XW z (cM ad) 56 [(0, .ref (ad.1 0)), (1, .int l1), (2, .int l2), (3, .int l3), (4, .int l4), (5, .int l5), (6, .int l6)] [.int s0] S := by
  unfold m_latest_j56 at h
  refine x_iload_n C dX12_latest_56 rfl 2 rfl (x_icmp_eq C (tgt := 63) dX12_latest_57 (by decide) (fun c => ?_) (fun c => ?_))
  · have h := ite_t h c
    refine x_iload C dX12_latest_63 5 rfl (x_iconst C dX12_latest_65 kc_m1 (x_icmp_eq C (tgt := 86) dX12_latest_66 (by decide) (fun c => ?_) (fun c => ?_)))
    · have h := ite_t h c
      exact x_perm [0, 1, 2, 3, 4, 6] rfl (w_m_latest_j86 C E hKb h)
    · have h := ite_f h c
      obtain ⟨g75, h⟩ := G_some h
      obtain ⟨g82, h⟩ := G_some h
      refine x_aload_n C dX12_latest_69 rfl 0 rfl (gM_X12_47 C u_5_127 dX12_latest_70 (x_iload C dX12_latest_73 6 rfl (aM_29 C g75 dX12_latest_75 (x_aload_n C dX12_latest_76 rfl 0 rfl (gM_X12_47 C u_5_127 dX12_latest_77 (x_iload C dX12_latest_80 5 rfl (aM_29 C g82 dX12_latest_82 (x_icmp_lt C (tgt := 90) dX12_latest_83 (by decide) (fun c => ?_) (fun c => ?_)))))))))
      · have h := ite_t h c
        exact w_m_latest_j90 C E hKb h
      · have h := ite_f h c
        exact x_perm [0, 1, 2, 3, 4, 6] rfl (w_m_latest_j86 C E hKb h)
  · have h := ite_f h c
    exact x_goto C (tgt := 90) dX12_latest_60 (by decide) (w_m_latest_j90 C E hKb h)
set_option maxHeartbeats 4000000 in
theorem w_m_latest_h6 {z : ZT} {ad : AD} {ek : EK} {lh : Launch} {Dh : va_G} {r : Int32} {S' : ST} (C : CX z ad ek cX12_latest RX12 lh Dh 1 7) (E : EI z (cM ad) cX12_latest (some .int) r S') : ∀ (n : Nat) (S : ST) (l1 : Int32) (l2 : Int32) (l3 : Int32) (l4 : Int32) (l5 : Int32) (l6 : Int32), m_latest_h6 n S l1 l2 l3 l4 l5 l6 = some (r, S') → XW z (cM ad) 6 [(0, .ref (ad.1 0)), (1, .int l1), (2, .int l2), (3, .int l3), (4, .int l4), (5, .int l5), (6, .int l6)] [] S := by
  intro n
  induction n with
  | zero => intro S l1 l2 l3 l4 l5 l6 h; cases h
  | succ n ih =>
    intro S l1 l2 l3 l4 l5 l6 h
    have hKb := ih
    refine x_iload C dX12_latest_6 6 rfl (x_iload C dX12_latest_8 4 rfl (x_icmp_ge C (tgt := 96) dX12_latest_10 (by decide) (fun c => ?_) (fun c => ?_)))
    · have h := ite_t h c
      exact (by
        exact x_iload C dX12_latest_96 5 rfl (x_iret E h retI dX12_latest_98))
    · have h := ite_f h c
      obtain ⟨g19, h⟩ := G_some h
      refine x_aload_n C dX12_latest_13 rfl 0 rfl (gM_X12_46 C u_5_126 dX12_latest_14 (x_iload C dX12_latest_17 6 rfl (aM_28 C g19 dX12_latest_19 (x_iconst C dX12_latest_20 kc_1 (x_icmp_ne C (tgt := 90) dX12_latest_21 (by decide) (fun c => ?_) (fun c => ?_))))))
      · have h := ite_f h c
        exact w_m_latest_j90 C E hKb h
      · have h := ite_t h c
        obtain ⟨g30, h⟩ := G_some h
        refine x_aload_n C dX12_latest_24 rfl 0 rfl (gM_X12_47 C u_5_127 dX12_latest_25 (x_iload C dX12_latest_28 6 rfl (aM_29 C g30 dX12_latest_30 (x_iload_n C dX12_latest_31 rfl 3 rfl (x_icmp_gt C (tgt := 90) dX12_latest_32 (by decide) (fun c => ?_) (fun c => ?_))))))
        · have h := ite_t h c
          exact w_m_latest_j90 C E hKb h
        · have h := ite_f h c
          refine x_iload_n C dX12_latest_35 rfl 1 rfl (x_if_eq C (tgt := 49) dX12_latest_36 (by decide) (fun c => ?_) (fun c => ?_))
          · have h := ite_t h c
            obtain ⟨g55, h⟩ := G_some h
            exact x_aload_n C dX12_latest_49 rfl 0 rfl (gM_X12_48 C u_5_128 dX12_latest_50 (x_iload C dX12_latest_53 6 rfl (aM_30 C g55 dX12_latest_55 (w_m_latest_j56 C E hKb h))))
          · have h := ite_f h c
            obtain ⟨g45, h⟩ := G_some h
            exact x_aload_n C dX12_latest_39 rfl 0 rfl (gM_X12_49 C u_5_129 dX12_latest_40 (x_iload C dX12_latest_43 6 rfl (aM_31 C g45 dX12_latest_45 (x_goto C (tgt := 56) dX12_latest_46 (by decide) (w_m_latest_j56 C E hKb h)))))
set_option maxHeartbeats 4000000 in
theorem c_m_latest {ad : AD} {ek : EK} {lh : Launch} {Dh : va_G} {r : Int32} {S' : ST} {S : ST} {l1 : Int32} {l2 : Int32} {l3 : Int32} {l4 : Int32} (h : m_latest S l1 l2 l3 l4 = some (r, S')) : MXi lh Dh ad ek (cM ad) yX12_latest cX12_latest 7 (some .int) 1 [.ref (ad.1 0), .int l1, .int l2, .int l3, .int l4] S r S' := by
  refine mxi_of (by decide) (Nat.le_of_ble_eq_true rfl) (fun z C E => ?_)
  unfold m_latest at h
  exact x_iconst C dX12_latest_0 kc_m1 (x_istore C dX12_latest_1 (by decide) rfl (x_iconst C dX12_latest_3 kc_0 (x_istore C dX12_latest_4 (by decide) rfl (x_perm [2, 3, 4, 5, 6, 1, 0] rfl (w_m_latest_h6 C E FU _ _ _ _ _ _ _ h)))))
set_option maxHeartbeats 4000000 in
theorem c_m_whoIn {ad : AD} {ek : EK} {lh : Launch} {Dh : va_G} {r : Int32} {S' : ST} {S : ST} {l1 : Int32} {l2 : Int32} {l3 : Int32} (h : m_whoIn S l1 l2 l3 = some (r, S')) : MXi lh Dh ad ek (cM ad) yX12_whoIn cX12_whoIn 6 (some .int) 2 [.ref (ad.1 0), .int l1, .int l2, .int l3] S r S' := by
  refine mxi_of (by decide) (Nat.le_of_ble_eq_true rfl) (fun z C E => ?_)
  unfold m_whoIn at h
  obtain ⟨r5, S5, e5, h⟩ := cal_some h
  refine x_aload_n C dX12_whoIn_0 rfl 0 rfl (x_iconst C dX12_whoIn_1 kc_1 (x_iload_n C dX12_whoIn_2 rfl 1 rfl (x_iload_n C dX12_whoIn_3 rfl 2 rfl (x_iload_n C dX12_whoIn_4 rfl 3 rfl (x_callVi C (c_m_latest e5) k_X12_321 (ci := 12) (q0 := 0) rfl rfl (by decide) (by decide) rfl dX12_whoIn_5 (x_istore C dX12_whoIn_8 (by decide) rfl (x_iload C dX12_whoIn_10 0 rfl (x_iconst C dX12_whoIn_12 kc_m1 (x_icmp_ne C (tgt := 18) dX12_whoIn_13 (by decide) (fun c => ?_) (fun c => ?_))))))))))
  · have h := ite_f h c
    obtain ⟨g26, h⟩ := G_some h
    obtain ⟨r29, S29, e29, h⟩ := cal_some h
    obtain ⟨g40, h⟩ := G_some h
    refine x_aload_n C dX12_whoIn_18 rfl 1 rfl (x_iconst C dX12_whoIn_19 kc_0 (x_aload_n C dX12_whoIn_20 rfl 1 rfl (gM_X12_48 C u_5_128 dX12_whoIn_21 (x_iload C dX12_whoIn_24 0 rfl (aM_30 C g26 dX12_whoIn_26 (x_iload_n C dX12_whoIn_27 rfl 3 rfl (x_iload_n C dX12_whoIn_28 rfl 4 rfl (x_callVi C (c_m_latest e29) k_X12_321 (ci := 12) (q0 := 0) rfl rfl (by decide) (by decide) rfl dX12_whoIn_29 (x_istore C dX12_whoIn_32 (by decide) rfl (x_aload_n C dX12_whoIn_34 rfl 2 rfl (gM_X12_49 C u_5_129 dX12_whoIn_35 (x_iload C dX12_whoIn_38 0 rfl (aM_31 C g40 dX12_whoIn_40 (x_iload_n C dX12_whoIn_41 rfl 3 rfl (x_icmp_ne C (tgt := 55) dX12_whoIn_42 (by decide) (fun c => ?_) (fun c => ?_))))))))))))))))
    · have h := ite_f h c
      exact x_iconst C dX12_whoIn_55 kc_m1 (x_iret E h retI dX12_whoIn_56)
    · have h := ite_t h c
      obtain ⟨g51, h⟩ := G_some h
      exact x_aload_n C dX12_whoIn_45 rfl 2 rfl (gM_X12_48 C u_5_128 dX12_whoIn_46 (x_iload C dX12_whoIn_49 1 rfl (aM_30 C g51 dX12_whoIn_51 (x_goto C (tgt := 56) dX12_whoIn_52 (by decide) (x_iret E h retI dX12_whoIn_56)))))
  · have h := ite_t h c
    exact x_iconst C dX12_whoIn_16 kc_m1 (x_iret E h retI dX12_whoIn_17)
