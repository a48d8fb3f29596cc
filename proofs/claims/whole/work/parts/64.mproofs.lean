set_option maxHeartbeats 4000000 in
theorem w_m_read_j252 {z : ZT} {ad : AD} {ek : EK} {lh : Launch} {Dh : va_G} {r : Int32} {S' : ST} (C : CX z ad ek cX12_read RX12 lh Dh 7 3) (E : EI z (cM ad) cX12_read (some .int) r S') {S : ST} {s0 : Int32} (h : m_read_j252 S s0 = some (r, S')) : XW z (cM ad) 252 [(0, .ref (ad.1 0))] [.int s0, .ref (ad.1 0)] S := by
  unfold m_read_j252 at h
  refine pM_X12_17 C u_5_97 dX12_read_252 (x_aload_n C dX12_read_255 rfl 0 rfl (gM_X12_13 C u_5_93 dX12_read_256 (x_if_le C (tgt := 267) dX12_read_259 (by decide) (fun c => ?_) (fun c => ?_))))
  · have h := ite_t h c
    refine x_aload_n C dX12_read_267 rfl 0 rfl (gM_X12_15 C u_5_95 dX12_read_268 (x_if_le C (tgt := 279) dX12_read_271 (by decide) (fun c => ?_) (fun c => ?_)))
    · have h := ite_t h c
      obtain ⟨S290, e290, h⟩ := calV_some h
      exact x_aload_n C dX12_read_279 rfl 0 rfl (x_dup C dX12_read_280 rfl (gM_X12_18 C u_5_98 dX12_read_281 (x_iconst C dX12_read_284 kc_1 (x_iadd C dX12_read_285 (pM_X12_18 C u_5_98 dX12_read_286 (x_aload_n C dX12_read_289 rfl 0 rfl (x_callVv C (c_m_changed e290) k_X12_246 (ci := 12) (q0 := 0) rfl rfl (by decide) (Nat.le_of_ble_eq_true rfl) rfl dX12_read_290 (x_iconst C dX12_read_293 kc_0 (x_iret E h retI dX12_read_294)))))))))
    · have h := ite_f h c
      exact x_aload_n C dX12_read_274 rfl 0 rfl (gM_X12_15 C u_5_95 dX12_read_275 (x_iret E h retI dX12_read_278))
  · have h := ite_f h c
    exact x_aload_n C dX12_read_262 rfl 0 rfl (gM_X12_13 C u_5_93 dX12_read_263 (x_iret E h retI dX12_read_266))
set_option maxHeartbeats 4000000 in
theorem w_m_read_j222 {z : ZT} {ad : AD} {ek : EK} {lh : Launch} {Dh : va_G} {r : Int32} {S' : ST} (C : CX z ad ek cX12_read RX12 lh Dh 7 3) (E : EI z (cM ad) cX12_read (some .int) r S') {S : ST} (h : m_read_j222 S = some (r, S')) : XW z (cM ad) 222 [(0, .ref (ad.1 0))] [] S := by
  unfold m_read_j222 at h
  refine x_aload_n C dX12_read_222 rfl 0 rfl (x_aload_n C dX12_read_223 rfl 0 rfl (gM_X12_13 C u_5_93 dX12_read_224 (x_if_le C (tgt := 237) dX12_read_227 (by decide) (fun c => ?_) (fun c => ?_))))
  · have h := ite_t h c
    refine x_aload_n C dX12_read_237 rfl 0 rfl (gM_X12_15 C u_5_95 dX12_read_238 (x_if_le C (tgt := 251) dX12_read_241 (by decide) (fun c => ?_) (fun c => ?_)))
    · have h := ite_t h c
      exact x_iconst C dX12_read_251 kc_m1 (w_m_read_j252 C E h)
    · have h := ite_f h c
      exact x_aload_n C dX12_read_244 rfl 0 rfl (gM_X12_16 C u_5_96 dX12_read_245 (x_goto C (tgt := 252) dX12_read_248 (by decide) (w_m_read_j252 C E h)))
  · have h := ite_f h c
    exact x_aload_n C dX12_read_230 rfl 0 rfl (gM_X12_14 C u_5_94 dX12_read_231 (x_goto C (tgt := 252) dX12_read_234 (by decide) (w_m_read_j252 C E h)))
set_option maxHeartbeats 4000000 in
theorem w_m_read_h200 {z : ZT} {ad : AD} {ek : EK} {lh : Launch} {Dh : va_G} {r : Int32} {S' : ST} (C : CX z ad ek cX12_read RX12 lh Dh 7 3) (E : EI z (cM ad) cX12_read (some .int) r S') {K222 : ST → Option (Int32 × ST)} (hK222 : ∀ (S : ST)  , K222 S = some (r, S') → XW z (cM ad) 222 [(0, .ref (ad.1 0))] [] S) : ∀ (n : Nat) (S : ST), m_read_h200 K222 n S = some (r, S') → XW z (cM ad) 200 [(0, .ref (ad.1 0))] [] S := by
  intro n
  induction n with
  | zero => intro S h; cases h
  | succ n ih =>
    intro S h
    have hKb := ih
    refine x_aload_n C dX12_read_200 rfl 0 rfl (gM_X12_13 C u_5_93 dX12_read_201 (x_if_ne C (tgt := 222) dX12_read_204 (by decide) (fun c => ?_) (fun c => ?_)))
    · have h := ite_f h c
      exact hK222 _ h
    · have h := ite_t h c
      obtain ⟨r209, S209, e209, h⟩ := cal_some h
      refine x_aload_n C dX12_read_207 rfl 0 rfl (x_iconst C dX12_read_208 kc_0 (x_callVi C (c_m_is e209) k_X12_215 (ci := 12) (q0 := 0) rfl rfl (by decide) (Nat.le_of_ble_eq_true rfl) rfl dX12_read_209 (x_if_ne C (tgt := 222) dX12_read_212 (by decide) (fun c => ?_) (fun c => ?_))))
      · have h := ite_f h c
        exact hK222 _ h
      · have h := ite_t h c
        obtain ⟨S216, e216, h⟩ := calV_some h
        exact x_aload_n C dX12_read_215 rfl 0 rfl (x_callVv C (c_m_tellRule e216) k_X12_243 (ci := 12) (q0 := 0) rfl rfl (by decide) (Nat.le_of_ble_eq_true rfl) rfl dX12_read_216 (x_goto C (tgt := 200) dX12_read_219 (by decide) (hKb _ h)))
set_option maxHeartbeats 4000000 in
theorem w_m_read_j185 {z : ZT} {ad : AD} {ek : EK} {lh : Launch} {Dh : va_G} {r : Int32} {S' : ST} (C : CX z ad ek cX12_read RX12 lh Dh 7 3) (E : EI z (cM ad) cX12_read (some .int) r S') {S : ST} {l2 : Int32} (h : m_read_j185 S l2 = some (r, S')) : XW z (cM ad) 185 [(0, .ref (ad.1 0)), (2, .int l2)] [] S := by
  unfold m_read_j185 at h
  obtain ⟨g194, h⟩ := G_some h
  obtain ⟨S197, e197, h⟩ := calV_some h
  exact x_aload_n C dX12_read_185 rfl 0 rfl (gM_X12_19 C u_5_99 dX12_read_186 (x_aload_n C dX12_read_189 rfl 0 rfl (gM_X12_18 C u_5_98 dX12_read_190 (x_iload_n C dX12_read_193 rfl 1 rfl (sM_8 C g194 dX12_read_194 (x_aload_n C dX12_read_195 rfl 0 rfl (x_iconst C dX12_read_196 kc_4 (x_callVv C (c_m_must e197) k_X12_236 (ci := 12) (q0 := 0) rfl rfl (by decide) (Nat.le_of_ble_eq_true rfl) rfl dX12_read_197 (x_perm [0] rfl (w_m_read_h200 C E (fun _ h => w_m_read_j222 C E  h) FU _ h))))))))))
set_option maxHeartbeats 4000000 in
theorem w_m_read_j160 {z : ZT} {ad : AD} {ek : EK} {lh : Launch} {Dh : va_G} {r : Int32} {S' : ST} (C : CX z ad ek cX12_read RX12 lh Dh 7 3) (E : EI z (cM ad) cX12_read (some .int) r S') {S : ST} {l1 : Int32} {s0 : Int32} (h : m_read_j160 S l1 s0 = some (r, S')) : XW z (cM ad) 160 [(0, .ref (ad.1 0)), (1, .int l1)] [.int s0] S := by
  unfold m_read_j160 at h
  obtain ⟨S163, e163, h⟩ := calV_some h
  refine x_istore_n C dX12_read_160 rfl (by decide) rfl (x_aload_n C dX12_read_161 rfl 1 rfl (x_iconst C dX12_read_162 kc_2 (x_callVv C (c_m_must e163) k_X12_236 (ci := 12) (q0 := 0) rfl rfl (by decide) (Nat.le_of_ble_eq_true rfl) rfl dX12_read_163 (x_aload_n C dX12_read_166 rfl 1 rfl (gM_X12_13 C u_5_93 dX12_read_167 (x_if_ne C (tgt := 185) dX12_read_170 (by decide) (fun c => ?_) (fun c => ?_)))))))
  · have h := ite_f h c
    exact x_perm [1, 0] rfl (w_m_read_j185 C E h)
  · have h := ite_t h c
    refine x_iload_n C dX12_read_173 rfl 0 rfl (x_bipush C dX12_read_174 kb_100 (x_icmp_lt C (tgt := 185) dX12_read_176 (by decide) (fun c => ?_) (fun c => ?_)))
    · have h := ite_t h c
      exact x_perm [1, 0] rfl (w_m_read_j185 C E h)
    · have h := ite_f h c
      obtain ⟨S182, e182, h⟩ := calV_some h
      exact x_aload_n C dX12_read_179 rfl 1 rfl (x_iconst C dX12_read_180 kc_5 (x_iload_n C dX12_read_181 rfl 2 rfl (x_callVv C (c_m_wrong e182) k_X12_239 (ci := 12) (q0 := 0) rfl rfl (by decide) (Nat.le_of_ble_eq_true rfl) rfl dX12_read_182 (x_perm [1, 0] rfl (w_m_read_j185 C E h)))))
set_option maxHeartbeats 4000000 in
theorem w_m_read_j48 {z : ZT} {ad : AD} {ek : EK} {lh : Launch} {Dh : va_G} {r : Int32} {S' : ST} (C : CX z ad ek cX12_read RX12 lh Dh 7 3) (E : EI z (cM ad) cX12_read (some .int) r S') {S : ST} (h : m_read_j48 S = some (r, S')) : XW z (cM ad) 48 [(0, .ref (ad.1 0))] [] S := by
  unfold m_read_j48 at h
  obtain ⟨S54, e54, h⟩ := calV_some h
  obtain ⟨g86, h⟩ := G_some h
  obtain ⟨g96, h⟩ := G_some h
  obtain ⟨r124, S124, e124, h⟩ := cal_some h
  refine x_aload_n C dX12_read_48 rfl 0 rfl (x_iconst C dX12_read_49 kc_0 (pM_X12_2 C u_5_82 dX12_read_50 (x_aload_n C dX12_read_53 rfl 0 rfl (x_callVv C (c_m_cut e54) k_X12_224 (ci := 12) (q0 := 0) rfl rfl (by decide) (Nat.le_of_ble_eq_true rfl) rfl dX12_read_54 (x_aload_n C dX12_read_57 rfl 0 rfl (x_iconst C dX12_read_58 kc_0 (pM_X12_11 C u_5_91 dX12_read_59 (x_aload_n C dX12_read_62 rfl 0 rfl (x_iconst C dX12_read_63 kc_0 (pM_X12_12 C u_5_92 dX12_read_64 (x_aload_n C dX12_read_67 rfl 0 rfl (x_iconst C dX12_read_68 kc_0 (pM_X12_13 C u_5_93 dX12_read_69 (x_aload_n C dX12_read_72 rfl 0 rfl (x_iconst C dX12_read_73 kc_0 (pM_X12_15 C u_5_95 dX12_read_74 (x_aload_n C dX12_read_77 rfl 0 rfl (gM_X12_19 C u_5_99 dX12_read_78 (x_aload_n C dX12_read_81 rfl 0 rfl (gM_X12_18 C u_5_98 dX12_read_82 (x_iconst C dX12_read_85 kc_0 (sM_8 C g86 dX12_read_86 (x_aload_n C dX12_read_87 rfl 0 rfl (gM_X12_20 C u_5_100 dX12_read_88 (x_aload_n C dX12_read_91 rfl 0 rfl (gM_X12_18 C u_5_98 dX12_read_92 (x_iconst C dX12_read_95 kc_0 (sM_9 C g96 dX12_read_96 (x_aload_n C dX12_read_97 rfl 0 rfl (x_sipush C dX12_read_98 ks_140 (x_aload_n C dX12_read_101 rfl 0 rfl (gM_X12_18 C u_5_98 dX12_read_102 (x_imul C dX12_read_105 (pM_X12_27 C u_5_107 dX12_read_106 (x_aload_n C dX12_read_109 rfl 0 rfl (x_sipush C dX12_read_110 ks_400 (x_aload_n C dX12_read_113 rfl 0 rfl (gM_X12_18 C u_5_98 dX12_read_114 (x_imul C dX12_read_117 (pM_X12_34 C u_5_114 dX12_read_118 (x_aload_n C dX12_read_121 rfl 0 rfl (x_bipush C dX12_read_122 kb_20 (x_callVi C (c_m_is e124) k_X12_215 (ci := 12) (q0 := 0) rfl rfl (by decide) (Nat.le_of_ble_eq_true rfl) rfl dX12_read_124 (x_if_eq C (tgt := 200) dX12_read_127 (by decide) (fun c => ?_) (fun c => ?_)))))))))))))))))))))))))))))))))))))))))))))
  · have h := ite_t h c
    exact w_m_read_h200 C E (fun _ h => w_m_read_j222 C E  h) FU _ h
  · have h := ite_f h c
    obtain ⟨S131, e131, h⟩ := calV_some h
    obtain ⟨r141, S141, e141, h⟩ := cal_some h
    refine x_aload_n C dX12_read_130 rfl 0 rfl (x_callVv C (c_m_next e131) k_X12_218 (ci := 12) (q0 := 0) rfl rfl (by decide) (Nat.le_of_ble_eq_true rfl) rfl dX12_read_131 (x_aload_n C dX12_read_134 rfl 0 rfl (gM_X12_11 C u_5_91 dX12_read_135 (x_istore_n C dX12_read_138 rfl (by decide) rfl (x_aload_n C dX12_read_139 rfl 1 rfl (x_iconst C dX12_read_140 kc_2 (x_callVi C (c_m_is e141) k_X12_215 (ci := 12) (q0 := 0) rfl rfl (by decide) (Nat.le_of_ble_eq_true rfl) rfl dX12_read_141 (x_if_eq C (tgt := 159) dX12_read_144 (by decide) (fun c => ?_) (fun c => ?_)))))))))
    · have h := ite_t h c
      exact x_iconst C dX12_read_159 kc_0 (x_perm [1, 0] rfl (w_m_read_j160 C E h))
    · have h := ite_f h c
      obtain ⟨g155, h⟩ := G_some h
      exact x_aload_n C dX12_read_147 rfl 1 rfl (gM_X12_7 C u_5_87 dX12_read_148 (x_aload_n C dX12_read_151 rfl 1 rfl (gM_X12_11 C u_5_91 dX12_read_152 (aM_5 C g155 dX12_read_155 (x_goto C (tgt := 160) dX12_read_156 (by decide) (x_perm [1, 0] rfl (w_m_read_j160 C E h)))))))
set_option maxHeartbeats 4000000 in
theorem w_m_read_h22 {z : ZT} {ad : AD} {ek : EK} {lh : Launch} {Dh : va_G} {r : Int32} {S' : ST} (C : CX z ad ek cX12_read RX12 lh Dh 7 3) (E : EI z (cM ad) cX12_read (some .int) r S') {K48 : ST → Option (Int32 × ST)} (hK48 : ∀ (S : ST)  , K48 S = some (r, S') → XW z (cM ad) 48 [(0, .ref (ad.1 0))] [] S) : ∀ (n : Nat) (S : ST) (l1 : Int32), m_read_h22 K48 n S l1 = some (r, S') → XW z (cM ad) 22 [(0, .ref (ad.1 0)), (1, .int l1)] [] S := by
  intro n
  induction n with
  | zero => intro S l1 h; cases h
  | succ n ih =>
    intro S l1 h
    have hKb := ih
    refine x_iload_n C dX12_read_22 rfl 1 rfl (x_aload_n C dX12_read_23 rfl 0 rfl (gM_X12_4 C u_5_84 dX12_read_24 (x_icmp_ge C (tgt := 48) dX12_read_27 (by decide) (fun c => ?_) (fun c => ?_))))
    · have h := ite_t h c
      exact x_perm [0] rfl (hK48 _ h)
    · have h := ite_f h c
      obtain ⟨g40, h⟩ := G_some h
      obtain ⟨g41, h⟩ := G_some h
      exact x_aload_n C dX12_read_30 rfl 0 rfl (gM_X12_3 C u_5_83 dX12_read_31 (x_iload_n C dX12_read_34 rfl 1 rfl (x_aload_n C dX12_read_35 rfl 0 rfl (gM_X12_1 C u_5_81 dX12_read_36 (x_iload_n C dX12_read_39 rfl 1 rfl (aM_1 C g40 dX12_read_40 (sM_2 C g41 dX12_read_41 (x_iinc C dX12_read_42 1 rfl ki_1 (by decide) rfl (x_goto C (tgt := 22) dX12_read_45 (by decide) (x_perm [1, 0] rfl (hKb _ _ h)))))))))))
set_option maxHeartbeats 4000000 in
theorem c_m_read {ad : AD} {ek : EK} {lh : Launch} {Dh : va_G} {r : Int32} {S' : ST}  {S : ST} (h : m_read S = some (r, S')) : MXi lh Dh ad ek (cM ad) yX12_read cX12_read 3 (some .int) 7 [.ref (ad.1 0)] S r S' := by
  refine mxi_of (by decide) (Nat.le_of_ble_eq_true rfl) (fun z C E => ?_)
  unfold m_read at h
  refine x_aload_n C dX12_read_0 rfl 0 rfl (gM_X12_18 C u_5_98 dX12_read_1 (x_bipush C dX12_read_4 kb_6 (x_icmp_ne C (tgt := 12) dX12_read_6 (by decide) (fun c => ?_) (fun c => ?_))))
  · have h := ite_f h c
    exact x_aload_n C dX12_read_12 rfl 0 rfl (x_aload_n C dX12_read_13 rfl 0 rfl (gM_X12_2 C u_5_82 dX12_read_14 (pM_X12_4 C u_5_84 dX12_read_17 (x_iconst C dX12_read_20 kc_0 (x_istore_n C dX12_read_21 rfl (by decide) rfl (x_perm [1, 0] rfl (w_m_read_h22 C E (fun _ h => w_m_read_j48 C E  h) FU _ _ h)))))))
  · have h := ite_t h c
    exact x_bipush C dX12_read_9 kb_m2 (x_iret E h retI dX12_read_11)
set_option maxHeartbeats 4000000 in
theorem c_m_at {ad : AD} {ek : EK} {lh : Launch} {Dh : va_G} {r : Int32} {S' : ST}  {S : ST} {l1 : Int32} {l2 : Int32} {l3 : Int32} {l4 : Int32} (h : m_at S l1 l2 l3 l4 = some (r, S')) : MXi lh Dh ad ek (cM ad) yX12_at cX12_at 5 (some .int) 8 [.ref (ad.1 0), .int l1, .int l2, .int l3, .int l4] S r S' := by
  refine mxi_of (by decide) (Nat.le_of_ble_eq_true rfl) (fun z C E => ?_)
  unfold m_at at h
  obtain ⟨r4, S4, e4, h⟩ := cal_some h
  refine x_aload_n C dX12_at_0 rfl 0 rfl (x_iload_n C dX12_at_1 rfl 1 rfl (x_iload_n C dX12_at_2 rfl 2 rfl (x_iload_n C dX12_at_3 rfl 3 rfl (x_callVi C (c_m_isPrint e4) k_X12_379 (ci := 12) (q0 := 0) rfl rfl (by decide) (Nat.le_of_ble_eq_true rfl) rfl dX12_at_4 (x_if_eq C (tgt := 15) dX12_at_7 (by decide) (fun c => ?_) (fun c => ?_))))))
  · have h := ite_t h c
    exact x_iconst C dX12_at_15 kc_m1 (x_goto C (tgt := 28) dX12_at_16 (by decide) (x_iret E h retI dX12_at_28))
  · have h := ite_f h c
    refine x_iload C dX12_at_10 4 rfl (x_if_ge C (tgt := 19) dX12_at_12 (by decide) (fun c => ?_) (fun c => ?_))
    · have h := ite_t h c
      obtain ⟨r25, S25, e25, h⟩ := cal_some h
      exact x_aload_n C dX12_at_19 rfl 0 rfl (x_iload_n C dX12_at_20 rfl 1 rfl (x_iload_n C dX12_at_21 rfl 2 rfl (x_iload_n C dX12_at_22 rfl 3 rfl (x_iload C dX12_at_23 4 rfl (x_callVi C (c_m_printAt e25) k_X12_382 (ci := 12) (q0 := 0) rfl rfl (by decide) (Nat.le_of_ble_eq_true rfl) rfl dX12_at_25 (x_iret E h retI dX12_at_28))))))
    · have h := ite_f h c
      exact x_iconst C dX12_at_15 kc_m1 (x_goto C (tgt := 28) dX12_at_16 (by decide) (x_iret E h retI dX12_at_28))
set_option maxHeartbeats 4000000 in
theorem c_m_bar {ad : AD} {ek : EK} {lh : Launch} {Dh : va_G} {r : Int32} {S' : ST}  {S : ST} {l1 : Int32} {l2 : Int32} (h : m_bar S l1 l2 = some (r, S')) : MXi lh Dh ad ek (cM ad) yX12_bar cX12_bar 3 (some .int) 8 [.ref (ad.1 0), .int l1, .int l2] S r S' := by
  refine mxi_of (by decide) (Nat.le_of_ble_eq_true rfl) (fun z C E => ?_)
  unfold m_bar at h
  obtain ⟨r3, S3, e3, h⟩ := cal_some h
  refine x_aload_n C dX12_bar_0 rfl 0 rfl (x_iload_n C dX12_bar_1 rfl 1 rfl (x_iload_n C dX12_bar_2 rfl 2 rfl (x_callVi C (c_m_isMend e3) k_X12_364 (ci := 12) (q0 := 0) rfl rfl (by decide) (Nat.le_of_ble_eq_true rfl) rfl dX12_bar_3 (x_if_eq C (tgt := 27) dX12_bar_6 (by decide) (fun c => ?_) (fun c => ?_)))))
  · have h := ite_t h c
    exact x_iconst C dX12_bar_27 kc_m1 (x_iret E h retI dX12_bar_28)
  · have h := ite_f h c
    obtain ⟨r12, S12, e12, h⟩ := cal_some h
    refine x_aload_n C dX12_bar_9 rfl 0 rfl (x_iload_n C dX12_bar_10 rfl 1 rfl (x_iload_n C dX12_bar_11 rfl 2 rfl (x_callVi C (c_m_mendOf e12) k_X12_367 (ci := 12) (q0 := 0) rfl rfl (by decide) (Nat.le_of_ble_eq_true rfl) rfl dX12_bar_12 (x_iconst C dX12_bar_15 kc_4 (x_icmp_ne C (tgt := 27) dX12_bar_16 (by decide) (fun c => ?_) (fun c => ?_))))))
    · have h := ite_f h c
      exact x_iconst C dX12_bar_27 kc_m1 (x_iret E h retI dX12_bar_28)
    · have h := ite_t h c
      obtain ⟨r21, S21, e21, h⟩ := cal_some h
      exact x_aload_n C dX12_bar_19 rfl 0 rfl (x_iconst C dX12_bar_20 kc_2 (x_callVi C (c_m_first e21) k_X12_339 (ci := 12) (q0 := 0) rfl rfl (by decide) (Nat.le_of_ble_eq_true rfl) rfl dX12_bar_21 (x_goto C (tgt := 28) dX12_bar_24 (by decide) (x_iret E h retI dX12_bar_28))))
set_option maxHeartbeats 4000000 in
theorem c_m_found {ad : AD} {ek : EK} {lh : Launch} {Dh : va_G} {r : Int32} {S' : ST}  {S : ST} {l1 : Int32} {l2 : Int32} {l3 : Int32} {l4 : Int32} (h : m_found S l1 l2 l3 l4 = some (r, S')) : MXi lh Dh ad ek (cM ad) yX12_found cX12_found 5 (some .int) 8 [.ref (ad.1 0), .int l1, .int l2, .int l3, .int l4] S r S' := by
  refine mxi_of (by decide) (Nat.le_of_ble_eq_true rfl) (fun z C E => ?_)
  unfold m_found at h
  obtain ⟨r4, S4, e4, h⟩ := cal_some h
  refine x_aload_n C dX12_found_0 rfl 0 rfl (x_iload_n C dX12_found_1 rfl 1 rfl (x_iload_n C dX12_found_2 rfl 2 rfl (x_iload_n C dX12_found_3 rfl 3 rfl (x_callVi C (c_m_isAsked e4) k_X12_413 (ci := 12) (q0 := 0) rfl rfl (by decide) (Nat.le_of_ble_eq_true rfl) rfl dX12_found_4 (x_if_eq C (tgt := 15) dX12_found_7 (by decide) (fun c => ?_) (fun c => ?_))))))
  · have h := ite_t h c
    exact x_iconst C dX12_found_15 kc_m1 (x_goto C (tgt := 28) dX12_found_16 (by decide) (x_iret E h retI dX12_found_28))
  · have h := ite_f h c
    refine x_iload C dX12_found_10 4 rfl (x_if_ge C (tgt := 19) dX12_found_12 (by decide) (fun c => ?_) (fun c => ?_))
    · have h := ite_t h c
      obtain ⟨r25, S25, e25, h⟩ := cal_some h
      exact x_aload_n C dX12_found_19 rfl 0 rfl (x_iload_n C dX12_found_20 rfl 1 rfl (x_iload_n C dX12_found_21 rfl 2 rfl (x_iload_n C dX12_found_22 rfl 3 rfl (x_iload C dX12_found_23 4 rfl (x_callVi C (c_m_namesOf e25) k_X12_416 (ci := 12) (q0 := 0) rfl rfl (by decide) (Nat.le_of_ble_eq_true rfl) rfl dX12_found_25 (x_iret E h retI dX12_found_28))))))
    · have h := ite_f h c
      exact x_iconst C dX12_found_15 kc_m1 (x_goto C (tgt := 28) dX12_found_16 (by decide) (x_iret E h retI dX12_found_28))
set_option maxHeartbeats 4000000 in
theorem c_m_lines {ad : AD} {ek : EK} {lh : Launch} {Dh : va_G} {r : Int32} {S' : ST}  {S : ST} {l1 : Int32} {l2 : Int32} {l3 : Int32} (h : m_lines S l1 l2 l3 = some (r, S')) : MXi lh Dh ad ek (cM ad) yX12_lines cX12_lines 5 (some .int) 8 [.ref (ad.1 0), .int l1, .int l2, .int l3] S r S' := by
  refine mxi_of (by decide) (Nat.le_of_ble_eq_true rfl) (fun z C E => ?_)
  unfold m_lines at h
  obtain ⟨r4, S4, e4, h⟩ := cal_some h
  refine x_aload_n C dX12_lines_0 rfl 0 rfl (x_iload_n C dX12_lines_1 rfl 1 rfl (x_iload_n C dX12_lines_2 rfl 2 rfl (x_iload_n C dX12_lines_3 rfl 3 rfl (x_callVi C (c_m_isPrint e4) k_X12_379 (ci := 12) (q0 := 0) rfl rfl (by decide) (Nat.le_of_ble_eq_true rfl) rfl dX12_lines_4 (x_if_ne C (tgt := 12) dX12_lines_7 (by decide) (fun c => ?_) (fun c => ?_))))))
  · have h := ite_f h c
    obtain ⟨r17, S17, e17, h⟩ := cal_some h
    refine x_aload_n C dX12_lines_12 rfl 0 rfl (x_iload_n C dX12_lines_13 rfl 1 rfl (x_iload_n C dX12_lines_14 rfl 2 rfl (x_iload_n C dX12_lines_15 rfl 3 rfl (x_iconst C dX12_lines_16 kc_m1 (x_callVi C (c_m_printAt e17) k_X12_382 (ci := 12) (q0 := 0) rfl rfl (by decide) (Nat.le_of_ble_eq_true rfl) rfl dX12_lines_17 (x_istore C dX12_lines_20 (by decide) rfl (x_iload C dX12_lines_22 0 rfl (x_iconst C dX12_lines_24 kc_m1 (x_icmp_ne C (tgt := 35) dX12_lines_25 (by decide) (fun c => ?_) (fun c => ?_))))))))))
    · have h := ite_f h c
      exact x_iconst C dX12_lines_35 kc_m1 (x_iret E h retI dX12_lines_36)
    · have h := ite_t h c
      exact x_aload_n C dX12_lines_28 rfl 1 rfl (gM_X12_61 C u_5_141 dX12_lines_29 (x_goto C (tgt := 36) dX12_lines_32 (by decide) (x_iret E h retI dX12_lines_36)))
  · have h := ite_t h c
    exact x_iconst C dX12_lines_10 kc_m1 (x_iret E h retI dX12_lines_11)
set_option maxHeartbeats 4000000 in
theorem c_m_mended {ad : AD} {ek : EK} {lh : Launch} {Dh : va_G} {r : Int32} {S' : ST}  {S : ST} {l1 : Int32} {l2 : Int32} (h : m_mended S l1 l2 = some (r, S')) : MXi lh Dh ad ek (cM ad) yX12_mended cX12_mended 3 (some .int) 8 [.ref (ad.1 0), .int l1, .int l2] S r S' := by
  refine mxi_of (by decide) (Nat.le_of_ble_eq_true rfl) (fun z C E => ?_)
  unfold m_mended at h
  obtain ⟨r3, S3, e3, h⟩ := cal_some h
  refine x_aload_n C dX12_mended_0 rfl 0 rfl (x_iload_n C dX12_mended_1 rfl 1 rfl (x_iload_n C dX12_mended_2 rfl 2 rfl (x_callVi C (c_m_isMend e3) k_X12_364 (ci := 12) (q0 := 0) rfl rfl (by decide) (Nat.le_of_ble_eq_true rfl) rfl dX12_mended_3 (x_if_eq C (tgt := 18) dX12_mended_6 (by decide) (fun c => ?_) (fun c => ?_)))))
  · have h := ite_t h c
    exact x_iconst C dX12_mended_18 kc_m1 (x_iret E h retI dX12_mended_19)
  · have h := ite_f h c
    obtain ⟨r12, S12, e12, h⟩ := cal_some h
    exact x_aload_n C dX12_mended_9 rfl 0 rfl (x_iload_n C dX12_mended_10 rfl 1 rfl (x_iload_n C dX12_mended_11 rfl 2 rfl (x_callVi C (c_m_mendOf e12) k_X12_367 (ci := 12) (q0 := 0) rfl rfl (by decide) (Nat.le_of_ble_eq_true rfl) rfl dX12_mended_12 (x_goto C (tgt := 19) dX12_mended_15 (by decide) (x_iret E h retI dX12_mended_19)))))
set_option maxHeartbeats 4000000 in
theorem c_m_names {ad : AD} {ek : EK} {lh : Launch} {Dh : va_G} {r : Int32} {S' : ST}  {S : ST} {l1 : Int32} {l2 : Int32} {l3 : Int32} (h : m_names S l1 l2 l3 = some (r, S')) : MXi lh Dh ad ek (cM ad) yX12_names cX12_names 5 (some .int) 8 [.ref (ad.1 0), .int l1, .int l2, .int l3] S r S' := by
  refine mxi_of (by decide) (Nat.le_of_ble_eq_true rfl) (fun z C E => ?_)
  unfold m_names at h
  obtain ⟨r4, S4, e4, h⟩ := cal_some h
  refine x_aload_n C dX12_names_0 rfl 0 rfl (x_iload_n C dX12_names_1 rfl 1 rfl (x_iload_n C dX12_names_2 rfl 2 rfl (x_iload_n C dX12_names_3 rfl 3 rfl (x_callVi C (c_m_isAsked e4) k_X12_413 (ci := 12) (q0 := 0) rfl rfl (by decide) (Nat.le_of_ble_eq_true rfl) rfl dX12_names_4 (x_if_ne C (tgt := 12) dX12_names_7 (by decide) (fun c => ?_) (fun c => ?_))))))
  · have h := ite_f h c
    obtain ⟨r17, S17, e17, h⟩ := cal_some h
    refine x_aload_n C dX12_names_12 rfl 0 rfl (x_iload_n C dX12_names_13 rfl 1 rfl (x_iload_n C dX12_names_14 rfl 2 rfl (x_iload_n C dX12_names_15 rfl 3 rfl (x_iconst C dX12_names_16 kc_m1 (x_callVi C (c_m_namesOf e17) k_X12_416 (ci := 12) (q0 := 0) rfl rfl (by decide) (Nat.le_of_ble_eq_true rfl) rfl dX12_names_17 (x_istore C dX12_names_20 (by decide) rfl (x_iload C dX12_names_22 0 rfl (x_iconst C dX12_names_24 kc_m1 (x_icmp_ne C (tgt := 35) dX12_names_25 (by decide) (fun c => ?_) (fun c => ?_))))))))))
    · have h := ite_f h c
      exact x_iconst C dX12_names_35 kc_m1 (x_iret E h retI dX12_names_36)
    · have h := ite_t h c
      exact x_aload_n C dX12_names_28 rfl 1 rfl (gM_X12_61 C u_5_141 dX12_names_29 (x_goto C (tgt := 36) dX12_names_32 (by decide) (x_iret E h retI dX12_names_36)))
  · have h := ite_t h c
    exact x_iconst C dX12_names_10 kc_m1 (x_iret E h retI dX12_names_11)
