set_option maxHeartbeats 4000000 in
theorem w_m_expression_j234 {z : ZT} {ad : AD} {ek : EK} {lh : Launch} {Dh : va_G} {S' : ST} (C : CX z ad ek cX12_expression RX12 lh Dh 4 3) (E : EV z (cM ad) cX12_expression S') {Kb : ST → Int32 → Int32 → Option ST} (hKb : ∀ (S : ST) (l1 : Int32) (l2 : Int32) , Kb S l1 l2 = some S' → XW z (cM ad) 12 [(0, .ref (ad.1 0)), (1, .int l1), (2, .int l2)] [] S) {K191 : ST → Int32 → Option ST} (hK191 : ∀ (S : ST) (l1 : Int32) , K191 S l1 = some S' → XW z (cM ad) 191 [(0, .ref (ad.1 0)), (1, .int l1)] [] S) {S : ST} {l1 : Int32} {l2 : Int32} {s0 : Int32} (h : m_expression_j234 Kb K191 S l1 l2 s0 = some S') : XW z (cM ad) 234 [(0, .ref (ad.1 0)), (1, .int l1), (2, .int l2)] [.int s0, .ref (ad.1 0)] S := by
  unfold m_expression_j234 at h
  obtain ⟨S234, e234, h⟩ := calV_some h
  obtain ⟨g253, h⟩ := G_some h
  obtain ⟨g254, h⟩ := G_some h
  obtain ⟨S266, e266, h⟩ := calV_some h
  exact x_callVv C (c_m_comesOut e234) k_X12_265 (ci := 12) (q0 := 0) rfl rfl (by decide) (Nat.le_of_ble_eq_true rfl) rfl dX12_expression_234 (x_aload_n C dX12_expression_237 rfl 0 rfl (gM_X12_37 C u_5_117 dX12_expression_238 (x_aload_n C dX12_expression_241 rfl 0 rfl (gM_X12_38 C u_5_118 dX12_expression_242 (x_aload_n C dX12_expression_245 rfl 0 rfl (gM_X12_5 C u_5_85 dX12_expression_246 (x_aload_n C dX12_expression_249 rfl 0 rfl (gM_X12_11 C u_5_91 dX12_expression_250 (aM_3 C g253 dX12_expression_253 (sM_24 C g254 dX12_expression_254 (x_aload_n C dX12_expression_255 rfl 0 rfl (x_dup C dX12_expression_256 rfl (gM_X12_38 C u_5_118 dX12_expression_257 (x_iconst C dX12_expression_260 kc_1 (x_iadd C dX12_expression_261 (pM_X12_38 C u_5_118 dX12_expression_262 (x_aload_n C dX12_expression_265 rfl 0 rfl (x_callVv C (c_m_next e266) k_X12_218 (ci := 12) (q0 := 0) rfl rfl (by decide) (Nat.le_of_ble_eq_true rfl) rfl dX12_expression_266 (x_goto C (tgt := 12) dX12_expression_269 (by decide) (hKb _ _ _ h))))))))))))))))))))
set_option maxHeartbeats 4000000 in
theorem w_m_expression_j229 {z : ZT} {ad : AD} {ek : EK} {lh : Launch} {Dh : va_G} {S' : ST} (C : CX z ad ek cX12_expression RX12 lh Dh 4 3) (E : EV z (cM ad) cX12_expression S') {Kb : ST → Int32 → Int32 → Option ST} (hKb : ∀ (S : ST) (l1 : Int32) (l2 : Int32) , Kb S l1 l2 = some S' → XW z (cM ad) 12 [(0, .ref (ad.1 0)), (1, .int l1), (2, .int l2)] [] S) {K191 : ST → Int32 → Option ST} (hK191 : ∀ (S : ST) (l1 : Int32) , K191 S l1 = some S' → XW z (cM ad) 191 [(0, .ref (ad.1 0)), (1, .int l1)] [] S) {S : ST} {l1 : Int32} {l2 : Int32} (h : m_expression_j229 Kb K191 S l1 l2 = some S') : XW z (cM ad) 229 [(0, .ref (ad.1 0)), (1, .int l1), (2, .int l2)] [.ref (ad.1 0)] S := by
  unfold m_expression_j229 at h
  exact x_iconst C dX12_expression_229 kc_1 (x_goto C (tgt := 234) dX12_expression_230 (by decide) (w_m_expression_j234 C E hKb hK191 h))
set_option maxHeartbeats 4000000 in
theorem w_m_expression_j191 {z : ZT} {ad : AD} {ek : EK} {lh : Launch} {Dh : va_G} {S' : ST} (C : CX z ad ek cX12_expression RX12 lh Dh 4 3) (E : EV z (cM ad) cX12_expression S') {S : ST} {l1 : Int32} (h : m_expression_j191 S l1 = some S') : XW z (cM ad) 191 [(0, .ref (ad.1 0)), (1, .int l1)] [] S := by
  unfold m_expression_j191 at h
  refine x_aload_n C dX12_expression_191 rfl 0 rfl (gM_X12_12 C u_5_92 dX12_expression_192 (x_iload_n C dX12_expression_195 rfl 1 rfl (x_icmp_le C (tgt := 204) dX12_expression_196 (by decide) (fun c => ?_) (fun c => ?_))))
  · have h := ite_t h c
    obtain ⟨S206, e206, h⟩ := calV_some h
    exact x_aload_n C dX12_expression_204 rfl 0 rfl (x_iconst C dX12_expression_205 kc_0 (x_callVv C (c_m_comesOut e206) k_X12_265 (ci := 12) (q0 := 0) rfl rfl (by decide) (Nat.le_of_ble_eq_true rfl) rfl dX12_expression_206 (x_vret E h dX12_expression_209)))
  · have h := ite_f h c
    obtain ⟨S201, e201, h⟩ := calV_some h
    obtain ⟨S206, e206, h⟩ := calV_some h
    exact x_aload_n C dX12_expression_199 rfl 0 rfl (x_iconst C dX12_expression_200 kc_1 (x_callVv C (c_m_fail e201) k_X12_212 (ci := 12) (q0 := 0) rfl rfl (by decide) (Nat.le_of_ble_eq_true rfl) rfl dX12_expression_201 (x_aload_n C dX12_expression_204 rfl 0 rfl (x_iconst C dX12_expression_205 kc_0 (x_callVv C (c_m_comesOut e206) k_X12_265 (ci := 12) (q0 := 0) rfl rfl (by decide) (Nat.le_of_ble_eq_true rfl) rfl dX12_expression_206 (x_vret E h dX12_expression_209))))))
set_option maxHeartbeats 4000000 in
theorem w_m_expression_j186 {z : ZT} {ad : AD} {ek : EK} {lh : Launch} {Dh : va_G} {S' : ST} (C : CX z ad ek cX12_expression RX12 lh Dh 4 3) (E : EV z (cM ad) cX12_expression S') {Kb : ST → Int32 → Int32 → Option ST} (hKb : ∀ (S : ST) (l1 : Int32) (l2 : Int32) , Kb S l1 l2 = some S' → XW z (cM ad) 12 [(0, .ref (ad.1 0)), (1, .int l1), (2, .int l2)] [] S) {K191 : ST → Int32 → Option ST} (hK191 : ∀ (S : ST) (l1 : Int32) , K191 S l1 = some S' → XW z (cM ad) 191 [(0, .ref (ad.1 0)), (1, .int l1)] [] S) {S : ST} {l1 : Int32} {s0 : Int32} (h : m_expression_j186 Kb K191 S l1 s0 = some S') : XW z (cM ad) 186 [(0, .ref (ad.1 0)), (1, .int l1)] [.int s0] S := by
  unfold m_expression_j186 at h
  refine x_istore_n C dX12_expression_186 rfl (by decide) rfl (x_iload_n C dX12_expression_187 rfl 0 rfl (x_if_ne C (tgt := 210) dX12_expression_188 (by decide) (fun c => ?_) (fun c => ?_)))
  · have h := ite_f h c
    obtain ⟨r214, S214, e214, h⟩ := cal_some h
    refine x_aload_n C dX12_expression_210 rfl 1 rfl (x_aload_n C dX12_expression_211 rfl 1 rfl (x_bipush C dX12_expression_212 kb_10 (x_callVi C (c_m_is e214) k_X12_215 (ci := 12) (q0 := 0) rfl rfl (by decide) (Nat.le_of_ble_eq_true rfl) rfl dX12_expression_214 (x_if_ne C (tgt := 229) dX12_expression_217 (by decide) (fun c => ?_) (fun c => ?_)))))
    · have h := ite_f h c
      exact x_perm [1, 2, 0] rfl (w_m_expression_j229 C E hKb hK191 h)
    · have h := ite_t h c
      obtain ⟨r223, S223, e223, h⟩ := cal_some h
      refine x_aload_n C dX12_expression_220 rfl 1 rfl (x_bipush C dX12_expression_221 kb_15 (x_callVi C (c_m_is e223) k_X12_215 (ci := 12) (q0 := 0) rfl rfl (by decide) (Nat.le_of_ble_eq_true rfl) rfl dX12_expression_223 (x_if_eq C (tgt := 233) dX12_expression_226 (by decide) (fun c => ?_) (fun c => ?_))))
      · have h := ite_t h c
        exact x_iconst C dX12_expression_233 kc_0 (x_perm [1, 2, 0] rfl (w_m_expression_j234 C E hKb hK191 h))
      · have h := ite_f h c
        exact x_perm [1, 2, 0] rfl (w_m_expression_j229 C E hKb hK191 h)
  · have h := ite_t h c
    exact x_perm [1, 2] rfl (hK191 _ _ h)
set_option maxHeartbeats 4000000 in
theorem w_m_expression_j181 {z : ZT} {ad : AD} {ek : EK} {lh : Launch} {Dh : va_G} {S' : ST} (C : CX z ad ek cX12_expression RX12 lh Dh 4 3) (E : EV z (cM ad) cX12_expression S') {Kb : ST → Int32 → Int32 → Option ST} (hKb : ∀ (S : ST) (l1 : Int32) (l2 : Int32) , Kb S l1 l2 = some S' → XW z (cM ad) 12 [(0, .ref (ad.1 0)), (1, .int l1), (2, .int l2)] [] S) {K191 : ST → Int32 → Option ST} (hK191 : ∀ (S : ST) (l1 : Int32) , K191 S l1 = some S' → XW z (cM ad) 191 [(0, .ref (ad.1 0)), (1, .int l1)] [] S) {S : ST} {l1 : Int32} (h : m_expression_j181 Kb K191 S l1 = some S') : XW z (cM ad) 181 [(0, .ref (ad.1 0)), (1, .int l1)] [] S := by
  unfold m_expression_j181 at h
  exact x_iconst C dX12_expression_181 kc_1 (x_goto C (tgt := 186) dX12_expression_182 (by decide) (w_m_expression_j186 C E hKb hK191 h))
set_option maxHeartbeats 4000000 in
theorem w_m_expression_j145 {z : ZT} {ad : AD} {ek : EK} {lh : Launch} {Dh : va_G} {S' : ST} (C : CX z ad ek cX12_expression RX12 lh Dh 4 3) (E : EV z (cM ad) cX12_expression S') {Kb : ST → Int32 → Int32 → Option ST} (hKb : ∀ (S : ST) (l1 : Int32) (l2 : Int32) , Kb S l1 l2 = some S' → XW z (cM ad) 12 [(0, .ref (ad.1 0)), (1, .int l1), (2, .int l2)] [] S) {K191 : ST → Int32 → Option ST} (hK191 : ∀ (S : ST) (l1 : Int32) , K191 S l1 = some S' → XW z (cM ad) 191 [(0, .ref (ad.1 0)), (1, .int l1)] [] S) {S : ST} {l1 : Int32} (h : m_expression_j145 Kb K191 S l1 = some S') : XW z (cM ad) 145 [(0, .ref (ad.1 0)), (1, .int l1)] [] S := by
  unfold m_expression_j145 at h
  obtain ⟨r148, S148, e148, h⟩ := cal_some h
  refine x_aload_n C dX12_expression_145 rfl 0 rfl (x_bipush C dX12_expression_146 kb_8 (x_callVi C (c_m_is e148) k_X12_215 (ci := 12) (q0 := 0) rfl rfl (by decide) (Nat.le_of_ble_eq_true rfl) rfl dX12_expression_148 (x_if_ne C (tgt := 181) dX12_expression_151 (by decide) (fun c => ?_) (fun c => ?_))))
  · have h := ite_f h c
    exact w_m_expression_j181 C E hKb hK191 h
  · have h := ite_t h c
    obtain ⟨r157, S157, e157, h⟩ := cal_some h
    refine x_aload_n C dX12_expression_154 rfl 0 rfl (x_bipush C dX12_expression_155 kb_9 (x_callVi C (c_m_is e157) k_X12_215 (ci := 12) (q0 := 0) rfl rfl (by decide) (Nat.le_of_ble_eq_true rfl) rfl dX12_expression_157 (x_if_ne C (tgt := 181) dX12_expression_160 (by decide) (fun c => ?_) (fun c => ?_))))
    · have h := ite_f h c
      exact w_m_expression_j181 C E hKb hK191 h
    · have h := ite_t h c
      obtain ⟨r166, S166, e166, h⟩ := cal_some h
      refine x_aload_n C dX12_expression_163 rfl 0 rfl (x_bipush C dX12_expression_164 kb_10 (x_callVi C (c_m_is e166) k_X12_215 (ci := 12) (q0 := 0) rfl rfl (by decide) (Nat.le_of_ble_eq_true rfl) rfl dX12_expression_166 (x_if_ne C (tgt := 181) dX12_expression_169 (by decide) (fun c => ?_) (fun c => ?_))))
      · have h := ite_f h c
        exact w_m_expression_j181 C E hKb hK191 h
      · have h := ite_t h c
        obtain ⟨r175, S175, e175, h⟩ := cal_some h
        refine x_aload_n C dX12_expression_172 rfl 0 rfl (x_bipush C dX12_expression_173 kb_15 (x_callVi C (c_m_is e175) k_X12_215 (ci := 12) (q0 := 0) rfl rfl (by decide) (Nat.le_of_ble_eq_true rfl) rfl dX12_expression_175 (x_if_eq C (tgt := 185) dX12_expression_178 (by decide) (fun c => ?_) (fun c => ?_))))
        · have h := ite_t h c
          exact x_iconst C dX12_expression_185 kc_0 (w_m_expression_j186 C E hKb hK191 h)
        · have h := ite_f h c
          exact w_m_expression_j181 C E hKb hK191 h
set_option maxHeartbeats 4000000 in
theorem w_m_expression_h96 {z : ZT} {ad : AD} {ek : EK} {lh : Launch} {Dh : va_G} {S' : ST} (C : CX z ad ek cX12_expression RX12 lh Dh 4 3) (E : EV z (cM ad) cX12_expression S') {K145 : ST → Int32 → Option ST} (hK145 : ∀ (S : ST) (l1 : Int32) , K145 S l1 = some S' → XW z (cM ad) 145 [(0, .ref (ad.1 0)), (1, .int l1)] [] S) : ∀ (n : Nat) (S : ST) (l1 : Int32), m_expression_h96 K145 n S l1 = some S' → XW z (cM ad) 96 [(0, .ref (ad.1 0)), (1, .int l1)] [] S := by
  intro n
  induction n with
  | zero => intro S l1 h; cases h
  | succ n ih =>
    intro S l1 h
    have hKb := ih
    obtain ⟨r99, S99, e99, h⟩ := cal_some h
    refine x_aload_n C dX12_expression_96 rfl 0 rfl (x_bipush C dX12_expression_97 kb_7 (x_callVi C (c_m_is e99) k_X12_215 (ci := 12) (q0 := 0) rfl rfl (by decide) (Nat.le_of_ble_eq_true rfl) rfl dX12_expression_99 (x_if_eq C (tgt := 145) dX12_expression_102 (by decide) (fun c => ?_) (fun c => ?_))))
    · have h := ite_t h c
      exact hK145 _ _ h
    · have h := ite_f h c
      refine x_aload_n C dX12_expression_105 rfl 0 rfl (gM_X12_12 C u_5_92 dX12_expression_106 (x_iload_n C dX12_expression_109 rfl 1 rfl (x_icmp_le C (tgt := 145) dX12_expression_110 (by decide) (fun c => ?_) (fun c => ?_))))
      · have h := ite_t h c
        exact hK145 _ _ h
      · have h := ite_f h c
        obtain ⟨S115, e115, h⟩ := calV_some h
        obtain ⟨S139, e139, h⟩ := calV_some h
        exact x_aload_n C dX12_expression_113 rfl 0 rfl (x_iconst C dX12_expression_114 kc_0 (x_callVv C (c_m_comesOut e115) k_X12_265 (ci := 12) (q0 := 0) rfl rfl (by decide) (Nat.le_of_ble_eq_true rfl) rfl dX12_expression_115 (x_aload_n C dX12_expression_118 rfl 0 rfl (x_dup C dX12_expression_119 rfl (gM_X12_38 C u_5_118 dX12_expression_120 (x_iconst C dX12_expression_123 kc_1 (x_isub C dX12_expression_124 (pM_X12_38 C u_5_118 dX12_expression_125 (x_aload_n C dX12_expression_128 rfl 0 rfl (x_dup C dX12_expression_129 rfl (gM_X12_12 C u_5_92 dX12_expression_130 (x_iconst C dX12_expression_133 kc_1 (x_isub C dX12_expression_134 (pM_X12_12 C u_5_92 dX12_expression_135 (x_aload_n C dX12_expression_138 rfl 0 rfl (x_callVv C (c_m_next e139) k_X12_218 (ci := 12) (q0 := 0) rfl rfl (by decide) (Nat.le_of_ble_eq_true rfl) rfl dX12_expression_139 (x_goto C (tgt := 96) dX12_expression_142 (by decide) (hKb _ _ h))))))))))))))))))
set_option maxHeartbeats 4000000 in
theorem w_m_expression_j84 {z : ZT} {ad : AD} {ek : EK} {lh : Launch} {Dh : va_G} {S' : ST} (C : CX z ad ek cX12_expression RX12 lh Dh 4 3) (E : EV z (cM ad) cX12_expression S') {Kb : ST → Int32 → Int32 → Option ST} (hKb : ∀ (S : ST) (l1 : Int32) (l2 : Int32) , Kb S l1 l2 = some S' → XW z (cM ad) 12 [(0, .ref (ad.1 0)), (1, .int l1), (2, .int l2)] [] S) {K191 : ST → Int32 → Option ST} (hK191 : ∀ (S : ST) (l1 : Int32) , K191 S l1 = some S' → XW z (cM ad) 191 [(0, .ref (ad.1 0)), (1, .int l1)] [] S) {S : ST} {l1 : Int32} (h : m_expression_j84 Kb K191 S l1 = some S') : XW z (cM ad) 84 [(0, .ref (ad.1 0)), (1, .int l1)] [] S := by
  unfold m_expression_j84 at h
  obtain ⟨S85, e85, h⟩ := calV_some h
  refine x_aload_n C dX12_expression_84 rfl 0 rfl (x_callVv C (c_m_unit e85) k_X12_262 (ci := 12) (q0 := 0) rfl rfl (by decide) (Nat.le_of_ble_eq_true rfl) rfl dX12_expression_85 (x_aload_n C dX12_expression_88 rfl 0 rfl (gM_X12_13 C u_5_93 dX12_expression_89 (x_if_le C (tgt := 96) dX12_expression_92 (by decide) (fun c => ?_) (fun c => ?_)))))
  · have h := ite_t h c
    exact w_m_expression_h96 C E (fun _ _ h => w_m_expression_j145 C E hKb hK191 h) FU _ _ h
  · have h := ite_f h c
    exact (by
      exact x_vret E h dX12_expression_95)
set_option maxHeartbeats 4000000 in
theorem w_m_expression_j46 {z : ZT} {ad : AD} {ek : EK} {lh : Launch} {Dh : va_G} {S' : ST} (C : CX z ad ek cX12_expression RX12 lh Dh 4 3) (E : EV z (cM ad) cX12_expression S') {Kb : ST → Int32 → Option ST} (hKb : ∀ (S : ST) (l1 : Int32) , Kb S l1 = some S' → XW z (cM ad) 23 [(0, .ref (ad.1 0)), (1, .int l1)] [] S) {K84 : ST → Int32 → Option ST} (hK84 : ∀ (S : ST) (l1 : Int32) , K84 S l1 = some S' → XW z (cM ad) 84 [(0, .ref (ad.1 0)), (1, .int l1)] [] S) {S : ST} {l1 : Int32} (h : m_expression_j46 Kb K84 S l1 = some S') : XW z (cM ad) 46 [(0, .ref (ad.1 0)), (1, .int l1)] [] S := by
  unfold m_expression_j46 at h
  obtain ⟨S57, e57, h⟩ := calV_some h
  obtain ⟨g70, h⟩ := G_some h
  exact x_aload_n C dX12_expression_46 rfl 0 rfl (x_dup C dX12_expression_47 rfl (gM_X12_12 C u_5_92 dX12_expression_48 (x_iconst C dX12_expression_51 kc_1 (x_iadd C dX12_expression_52 (pM_X12_12 C u_5_92 dX12_expression_53 (x_aload_n C dX12_expression_56 rfl 0 rfl (x_callVv C (c_m_next e57) k_X12_218 (ci := 12) (q0 := 0) rfl rfl (by decide) (Nat.le_of_ble_eq_true rfl) rfl dX12_expression_57 (x_aload_n C dX12_expression_60 rfl 0 rfl (gM_X12_37 C u_5_117 dX12_expression_61 (x_aload_n C dX12_expression_64 rfl 0 rfl (gM_X12_38 C u_5_118 dX12_expression_65 (x_bipush C dX12_expression_68 kb_6 (sM_24 C g70 dX12_expression_70 (x_aload_n C dX12_expression_71 rfl 0 rfl (x_dup C dX12_expression_72 rfl (gM_X12_38 C u_5_118 dX12_expression_73 (x_iconst C dX12_expression_76 kc_1 (x_iadd C dX12_expression_77 (pM_X12_38 C u_5_118 dX12_expression_78 (x_goto C (tgt := 23) dX12_expression_81 (by decide) (hKb _ _ h)))))))))))))))))))))
set_option maxHeartbeats 4000000 in
theorem w_m_expression_h23 {z : ZT} {ad : AD} {ek : EK} {lh : Launch} {Dh : va_G} {S' : ST} (C : CX z ad ek cX12_expression RX12 lh Dh 4 3) (E : EV z (cM ad) cX12_expression S') {K84 : ST → Int32 → Option ST} (hK84 : ∀ (S : ST) (l1 : Int32) , K84 S l1 = some S' → XW z (cM ad) 84 [(0, .ref (ad.1 0)), (1, .int l1)] [] S) : ∀ (n : Nat) (S : ST) (l1 : Int32), m_expression_h23 K84 n S l1 = some S' → XW z (cM ad) 23 [(0, .ref (ad.1 0)), (1, .int l1)] [] S := by
  intro n
  induction n with
  | zero => intro S l1 h; cases h
  | succ n ih =>
    intro S l1 h
    have hKb := ih
    obtain ⟨r26, S26, e26, h⟩ := cal_some h
    refine x_aload_n C dX12_expression_23 rfl 0 rfl (x_bipush C dX12_expression_24 kb_6 (x_callVi C (c_m_is e26) k_X12_215 (ci := 12) (q0 := 0) rfl rfl (by decide) (Nat.le_of_ble_eq_true rfl) rfl dX12_expression_26 (x_if_eq C (tgt := 84) dX12_expression_29 (by decide) (fun c => ?_) (fun c => ?_))))
    · have h := ite_t h c
      exact hK84 _ _ h
    · have h := ite_f h c
      refine x_aload_n C dX12_expression_32 rfl 0 rfl (gM_X12_12 C u_5_92 dX12_expression_33 (x_bipush C dX12_expression_36 kb_6 (x_icmp_ne C (tgt := 46) dX12_expression_38 (by decide) (fun c => ?_) (fun c => ?_))))
      · have h := ite_f h c
        exact w_m_expression_j46 C E hKb hK84 h
      · have h := ite_t h c
        obtain ⟨S43, e43, h⟩ := calV_some h
        exact x_aload_n C dX12_expression_41 rfl 0 rfl (x_iconst C dX12_expression_42 kc_2 (x_callVv C (c_m_fail e43) k_X12_212 (ci := 12) (q0 := 0) rfl rfl (by decide) (Nat.le_of_ble_eq_true rfl) rfl dX12_expression_43 (w_m_expression_j46 C E hKb hK84 h)))
set_option maxHeartbeats 4000000 in
theorem w_m_expression_h12 {z : ZT} {ad : AD} {ek : EK} {lh : Launch} {Dh : va_G} {S' : ST} (C : CX z ad ek cX12_expression RX12 lh Dh 4 3) (E : EV z (cM ad) cX12_expression S') {K191 : ST → Int32 → Option ST} (hK191 : ∀ (S : ST) (l1 : Int32) , K191 S l1 = some S' → XW z (cM ad) 191 [(0, .ref (ad.1 0)), (1, .int l1)] [] S) : ∀ (n : Nat) (S : ST) (l1 : Int32) (l2 : Int32), m_expression_h12 K191 n S l1 l2 = some S' → XW z (cM ad) 12 [(0, .ref (ad.1 0)), (1, .int l1), (2, .int l2)] [] S := by
  intro n
  induction n with
  | zero => intro S l1 l2 h; cases h
  | succ n ih =>
    intro S l1 l2 h
    have hKb := ih
    refine x_iload_n C dX12_expression_12 rfl 2 rfl (x_if_eq C (tgt := 272) dX12_expression_13 (by decide) (fun c => ?_) (fun c => ?_))
    · have h := ite_t h c
      exact (by
        exact x_vret E h dX12_expression_272)
    · have h := ite_f h c
      refine x_aload_n C dX12_expression_16 rfl 0 rfl (gM_X12_13 C u_5_93 dX12_expression_17 (x_if_ne C (tgt := 272) dX12_expression_20 (by decide) (fun c => ?_) (fun c => ?_)))
      · have h := ite_f h c
        exact (by
          exact x_vret E h dX12_expression_272)
      · have h := ite_t h c
        exact x_perm [0, 1] rfl (w_m_expression_h23 C E (fun _ _ h => w_m_expression_j84 C E hKb hK191 h) FU _ _ h)
set_option maxHeartbeats 4000000 in
theorem c_m_expression {ad : AD} {ek : EK} {lh : Launch} {Dh : va_G} {S' : ST}  {S : ST} (h : m_expression S = some S') : MXv lh Dh ad ek (cM ad) yX12_expression cX12_expression 3 none 4 [.ref (ad.1 0)] S S' := by
  refine mxv_of (by decide) (Nat.le_of_ble_eq_true rfl) (fun z C E => ?_)
  unfold m_expression at h
  exact x_aload_n C dX12_expression_0 rfl 0 rfl (x_iconst C dX12_expression_1 kc_0 (pM_X12_38 C u_5_118 dX12_expression_2 (x_aload_n C dX12_expression_5 rfl 0 rfl (gM_X12_12 C u_5_92 dX12_expression_6 (x_istore_n C dX12_expression_9 rfl (by decide) rfl (x_iconst C dX12_expression_10 kc_1 (x_istore_n C dX12_expression_11 rfl (by decide) rfl (x_perm [2, 1, 0] rfl (w_m_expression_h12 C E (fun _ _ h => w_m_expression_j191 C E  h) FU _ _ _ h)))))))))
set_option maxHeartbeats 4000000 in
theorem w_m_first_j40 {z : ZT} {ad : AD} {ek : EK} {lh : Launch} {Dh : va_G} {r : Int32} {S' : ST} (C : CX z ad ek cX12_first RX12 lh Dh 4 3) (E : EI z (cM ad) cX12_first (some .int) r S') {Kb : ST → Int32 → Int32 → Option (Int32 × ST)} (hKb : ∀ (S : ST) (l1 : Int32) (l2 : Int32) , Kb S l1 l2 = some (r, S') → XW z (cM ad) 2 [(0, .ref (ad.1 0)), (1, .int l1), (2, .int l2)] [] S) {S : ST} {l1 : Int32} {l2 : Int32} (h : m_first_j40 Kb S l1 l2 = some (r, S')) : XW z (cM ad) 40 [(0, .ref (ad.1 0)), (1, .int l1), (2, .int l2)] [] S := by
  unfold m_first_j40 at h
  exact x_iinc C dX12_first_40 2 rfl ki_1 (by decide) rfl (x_goto C (tgt := 2) dX12_first_43 (by decide) (x_perm [1, 2, 0] rfl (hKb _ _ _ h)))
set_option maxHeartbeats 4000000 in
theorem w_m_first_h2 {z : ZT} {ad : AD} {ek : EK} {lh : Launch} {Dh : va_G} {r : Int32} {S' : ST} (C : CX z ad ek cX12_first RX12 lh Dh 4 3) (E : EI z (cM ad) cX12_first (some .int) r S') : ∀ (n : Nat) (S : ST) (l1 : Int32) (l2 : Int32), m_first_h2 n S l1 l2 = some (r, S') → XW z (cM ad) 2 [(0, .ref (ad.1 0)), (1, .int l1), (2, .int l2)] [] S := by
  intro n
  induction n with
  | zero => intro S l1 l2 h; cases h
  | succ n ih =>
    intro S l1 l2 h
    have hKb := ih
    refine x_iload_n C dX12_first_2 rfl 2 rfl (x_aload_n C dX12_first_3 rfl 0 rfl (gM_X12_43 C u_5_123 dX12_first_4 (x_icmp_ge C (tgt := 46) dX12_first_7 (by decide) (fun c => ?_) (fun c => ?_))))
    · have h := ite_t h c
      exact (by
        exact x_iconst C dX12_first_46 kc_m1 (x_iret E h retI dX12_first_47))
    · have h := ite_f h c
      obtain ⟨g19, h⟩ := G_some h
      obtain ⟨g20, h⟩ := G_some h
      refine x_aload_n C dX12_first_10 rfl 0 rfl (gM_X12_21 C u_5_101 dX12_first_11 (x_aload_n C dX12_first_14 rfl 0 rfl (gM_X12_44 C u_5_124 dX12_first_15 (x_iload_n C dX12_first_18 rfl 2 rfl (aM_27 C g19 dX12_first_19 (aM_10 C g20 dX12_first_20 (x_iload_n C dX12_first_21 rfl 1 rfl (x_icmp_ne C (tgt := 40) dX12_first_22 (by decide) (fun c => ?_) (fun c => ?_)))))))))
      · have h := ite_f h c
        exact w_m_first_j40 C E hKb h
      · have h := ite_t h c
        obtain ⟨g31, h⟩ := G_some h
        obtain ⟨r32, S32, e32, h⟩ := cal_some h
        refine x_aload_n C dX12_first_25 rfl 0 rfl (x_aload_n C dX12_first_26 rfl 0 rfl (gM_X12_44 C u_5_124 dX12_first_27 (x_iload_n C dX12_first_30 rfl 2 rfl (aM_27 C g31 dX12_first_31 (x_callVi C (c_m_holds e32) k_X12_285 (ci := 12) (q0 := 0) rfl rfl (by decide) (Nat.le_of_ble_eq_true rfl) rfl dX12_first_32 (x_if_eq C (tgt := 40) dX12_first_35 (by decide) (fun c => ?_) (fun c => ?_)))))))
        · have h := ite_t h c
          exact w_m_first_j40 C E hKb h
        · have h := ite_f h c
          exact (by
            exact x_iload_n C dX12_first_38 rfl 2 rfl (x_iret E h retI dX12_first_39))
set_option maxHeartbeats 4000000 in
theorem c_m_first {ad : AD} {ek : EK} {lh : Launch} {Dh : va_G} {r : Int32} {S' : ST}  {S : ST} {l1 : Int32} (h : m_first S l1 = some (r, S')) : MXi lh Dh ad ek (cM ad) yX12_first cX12_first 3 (some .int) 4 [.ref (ad.1 0), .int l1] S r S' := by
  refine mxi_of (by decide) (Nat.le_of_ble_eq_true rfl) (fun z C E => ?_)
  unfold m_first at h
  exact x_iconst C dX12_first_0 kc_0 (x_istore_n C dX12_first_1 rfl (by decide) rfl (x_perm [1, 2, 0] rfl (w_m_first_h2 C E FU _ _ _ h)))
set_option maxHeartbeats 4000000 in
theorem c_m_fateOf {ad : AD} {ek : EK} {lh : Launch} {Dh : va_G} {r : Int32} {S' : ST}  {S : ST} {l1 : Int32} {l2 : Int32} (h : m_fateOf S l1 l2 = some (r, S')) : MXi lh Dh ad ek (cM ad) yX12_fateOf cX12_fateOf 4 (some .int) 5 [.ref (ad.1 0), .int l1, .int l2] S r S' := by
  refine mxi_of (by decide) (Nat.le_of_ble_eq_true rfl) (fun z C E => ?_)
  unfold m_fateOf at h
  obtain ⟨g5, h⟩ := G_some h
  obtain ⟨g12, h⟩ := G_some h
  obtain ⟨g18, h⟩ := G_some h
  refine x_aload_n C dX12_fateOf_0 rfl 0 rfl (gM_X12_48 C u_5_128 dX12_fateOf_1 (x_iload_n C dX12_fateOf_4 rfl 1 rfl (aM_30 C g5 dX12_fateOf_5 (x_istore_n C dX12_fateOf_6 rfl (by decide) rfl (x_aload_n C dX12_fateOf_7 rfl 1 rfl (gM_X12_47 C u_5_127 dX12_fateOf_8 (x_iload_n C dX12_fateOf_11 rfl 2 rfl (aM_29 C g12 dX12_fateOf_12 (x_aload_n C dX12_fateOf_13 rfl 1 rfl (gM_X12_47 C u_5_127 dX12_fateOf_14 (x_iload_n C dX12_fateOf_17 rfl 0 rfl (aM_29 C g18 dX12_fateOf_18 (x_icmp_ge C (tgt := 24) dX12_fateOf_19 (by decide) (fun c => ?_) (fun c => ?_))))))))))))))
  · have h := ite_t h c
    obtain ⟨g31, h⟩ := G_some h
    obtain ⟨r33, S33, e33, h⟩ := cal_some h
    refine x_aload_n C dX12_fateOf_24 rfl 1 rfl (x_iload_n C dX12_fateOf_25 rfl 0 rfl (x_aload_n C dX12_fateOf_26 rfl 1 rfl (gM_X12_47 C u_5_127 dX12_fateOf_27 (x_iload_n C dX12_fateOf_30 rfl 2 rfl (aM_29 C g31 dX12_fateOf_31 (x_iload_n C dX12_fateOf_32 rfl 3 rfl (x_callVi C (c_m_isStruckBy e33) k_X12_331 (ci := 12) (q0 := 0) rfl rfl (by decide) (Nat.le_of_ble_eq_true rfl) rfl dX12_fateOf_33 (x_if_eq C (tgt := 41) dX12_fateOf_36 (by decide) (fun c => ?_) (fun c => ?_)))))))))
    · have h := ite_t h c
      obtain ⟨g50, h⟩ := G_some h
      obtain ⟨g61, h⟩ := G_some h
      obtain ⟨g73, h⟩ := G_some h
      obtain ⟨g79, h⟩ := G_some h
      obtain ⟨g81, h⟩ := G_some h
      obtain ⟨g93, h⟩ := G_some h
      obtain ⟨g94, h⟩ := G_some h
      obtain ⟨g101, h⟩ := G_some h
      obtain ⟨S102, e102, h⟩ := calV_some h
      obtain ⟨r107, S107, e107, h⟩ := cal_some h
      refine x_aload_n C dX12_fateOf_41 rfl 1 rfl (gM_X12_39 C u_5_119 dX12_fateOf_42 (x_iconst C dX12_fateOf_45 kc_0 (x_aload_n C dX12_fateOf_46 rfl 1 rfl (gM_X12_54 C u_5_134 dX12_fateOf_47 (sM_25 C g50 dX12_fateOf_50 (x_aload_n C dX12_fateOf_51 rfl 1 rfl (gM_X12_39 C u_5_119 dX12_fateOf_52 (x_bipush C dX12_fateOf_55 kb_8 (x_aload_n C dX12_fateOf_57 rfl 1 rfl (gM_X12_55 C u_5_135 dX12_fateOf_58 (sM_25 C g61 dX12_fateOf_61 (x_aload_n C dX12_fateOf_62 rfl 1 rfl (gM_X12_39 C u_5_119 dX12_fateOf_63 (x_bipush C dX12_fateOf_66 kb_7 (x_aload_n C dX12_fateOf_68 rfl 1 rfl (gM_X12_47 C u_5_127 dX12_fateOf_69 (x_iload_n C dX12_fateOf_72 rfl 2 rfl (aM_29 C g73 dX12_fateOf_73 (x_aload_n C dX12_fateOf_74 rfl 1 rfl (gM_X12_47 C u_5_127 dX12_fateOf_75 (x_iload_n C dX12_fateOf_78 rfl 0 rfl (aM_29 C g79 dX12_fateOf_79 (x_isub C dX12_fateOf_80 (sM_25 C g81 dX12_fateOf_81 (x_aload_n C dX12_fateOf_82 rfl 1 rfl (gM_X12_39 C u_5_119 dX12_fateOf_83 (x_bipush C dX12_fateOf_86 kb_10 (x_aload_n C dX12_fateOf_88 rfl 1 rfl (gM_X12_49 C u_5_129 dX12_fateOf_89 (x_iload_n C dX12_fateOf_92 rfl 2 rfl (aM_31 C g93 dX12_fateOf_93 (sM_25 C g94 dX12_fateOf_94 (x_aload_n C dX12_fateOf_95 rfl 1 rfl (x_aload_n C dX12_fateOf_96 rfl 1 rfl (gM_X12_47 C u_5_127 dX12_fateOf_97 (x_iload_n C dX12_fateOf_100 rfl 2 rfl (aM_29 C g101 dX12_fateOf_101 (x_callVv C (c_m_forces e102) k_X12_295 (ci := 12) (q0 := 0) rfl rfl (by decide) (Nat.le_of_ble_eq_true rfl) rfl dX12_fateOf_102 (x_aload_n C dX12_fateOf_105 rfl 1 rfl (x_iconst C dX12_fateOf_106 kc_1 (x_callVi C (c_m_first e107) k_X12_339 (ci := 12) (q0 := 0) rfl rfl (by decide) (Nat.le_of_ble_eq_true rfl) rfl dX12_fateOf_107 (x_iconst C dX12_fateOf_110 kc_m1 (x_icmp_ne C (tgt := 116) dX12_fateOf_111 (by decide) (fun c => ?_) (fun c => ?_))))))))))))))))))))))))))))))))))))))))))))
      · have h := ite_f h c
        obtain ⟨r118, S118, e118, h⟩ := cal_some h
        refine x_aload_n C dX12_fateOf_116 rfl 1 rfl (x_iconst C dX12_fateOf_117 kc_2 (x_callVi C (c_m_first e118) k_X12_339 (ci := 12) (q0 := 0) rfl rfl (by decide) (Nat.le_of_ble_eq_true rfl) rfl dX12_fateOf_118 (x_iconst C dX12_fateOf_121 kc_m1 (x_icmp_ne C (tgt := 129) dX12_fateOf_122 (by decide) (fun c => ?_) (fun c => ?_)))))
        · have h := ite_f h c
          exact x_iconst C dX12_fateOf_129 kc_4 (x_iret E h retI dX12_fateOf_130)
        · have h := ite_t h c
          exact x_iconst C dX12_fateOf_125 kc_0 (x_goto C (tgt := 130) dX12_fateOf_126 (by decide) (x_iret E h retI dX12_fateOf_130))
      · have h := ite_t h c
        exact x_iconst C dX12_fateOf_114 kc_3 (x_iret E h retI dX12_fateOf_115)
    · have h := ite_f h c
      exact x_iconst C dX12_fateOf_39 kc_2 (x_iret E h retI dX12_fateOf_40)
  · have h := ite_f h c
    exact x_iconst C dX12_fateOf_22 kc_1 (x_iret E h retI dX12_fateOf_23)
set_option maxHeartbeats 4000000 in
theorem w_m_literal_j85 {z : ZT} {ad : AD} {ek : EK} {lh : Launch} {Dh : va_G} {S' : ST} (C : CX z ad ek cX12_literal RX12 lh Dh 5 6) (E : EV z (cM ad) cX12_literal S') {S : ST} {l1 : Int32} {l2 : Int32} {l3 : Int32} {l4 : Int32} (h : m_literal_j85 S l1 l2 l3 l4 = some S') : XW z (cM ad) 85 [(0, .ref (ad.1 0)), (1, .int l1), (2, .int l2), (3, .int l3), (4, .int l4)] [] S := by
  unfold m_literal_j85 at h
  obtain ⟨S86, e86, h⟩ := calV_some h
  obtain ⟨S96, e96, h⟩ := calV_some h
  refine x_aload_n C dX12_literal_85 rfl 0 rfl (x_callVv C (c_m_next e86) k_X12_218 (ci := 12) (q0 := 0) rfl rfl (by decide) (Nat.le_of_ble_eq_true rfl) rfl dX12_literal_86 (x_aload_n C dX12_literal_89 rfl 0 rfl (gM_X12_34 C u_5_114 dX12_literal_90 (x_istore C dX12_literal_93 (by decide) rfl (x_aload_n C dX12_literal_95 rfl 1 rfl (x_callVv C (c_m_expression e96) k_X12_249 (ci := 12) (q0 := 0) rfl rfl (by decide) (Nat.le_of_ble_eq_true rfl) rfl dX12_literal_96 (x_aload_n C dX12_literal_99 rfl 1 rfl (gM_X12_13 C u_5_93 dX12_literal_100 (x_if_le C (tgt := 107) dX12_literal_103 (by decide) (fun c => ?_) (fun c => ?_))))))))))
  · have h := ite_t h c
    obtain ⟨g117, h⟩ := G_some h
    obtain ⟨g127, h⟩ := G_some h
    obtain ⟨g137, h⟩ := G_some h
    obtain ⟨g147, h⟩ := G_some h
    obtain ⟨g158, h⟩ := G_some h
    obtain ⟨g171, h⟩ := G_some h
    exact x_aload_n C dX12_literal_107 rfl 1 rfl (gM_X12_28 C u_5_108 dX12_literal_108 (x_aload_n C dX12_literal_111 rfl 1 rfl (gM_X12_27 C u_5_107 dX12_literal_112 (x_iload C dX12_literal_115 5 rfl (sM_16 C g117 dX12_literal_117 (x_aload_n C dX12_literal_118 rfl 1 rfl (gM_X12_29 C u_5_109 dX12_literal_119 (x_aload_n C dX12_literal_122 rfl 1 rfl (gM_X12_27 C u_5_107 dX12_literal_123 (x_iload_n C dX12_literal_126 rfl 3 rfl (sM_17 C g127 dX12_literal_127 (x_aload_n C dX12_literal_128 rfl 1 rfl (gM_X12_30 C u_5_110 dX12_literal_129 (x_aload_n C dX12_literal_132 rfl 1 rfl (gM_X12_27 C u_5_107 dX12_literal_133 (x_iload_n C dX12_literal_136 rfl 2 rfl (sM_18 C g137 dX12_literal_137 (x_aload_n C dX12_literal_138 rfl 1 rfl (gM_X12_31 C u_5_111 dX12_literal_139 (x_aload_n C dX12_literal_142 rfl 1 rfl (gM_X12_27 C u_5_107 dX12_literal_143 (x_iload_n C dX12_literal_146 rfl 4 rfl (sM_19 C g147 dX12_literal_147 (x_aload_n C dX12_literal_148 rfl 1 rfl (gM_X12_32 C u_5_112 dX12_literal_149 (x_aload_n C dX12_literal_152 rfl 1 rfl (gM_X12_27 C u_5_107 dX12_literal_153 (x_iload C dX12_literal_156 0 rfl (sM_20 C g158 dX12_literal_158 (x_aload_n C dX12_literal_159 rfl 1 rfl (gM_X12_33 C u_5_113 dX12_literal_160 (x_aload_n C dX12_literal_163 rfl 1 rfl (gM_X12_27 C u_5_107 dX12_literal_164 (x_aload_n C dX12_literal_167 rfl 1 rfl (gM_X12_34 C u_5_114 dX12_literal_168 (sM_21 C g171 dX12_literal_171 (x_aload_n C dX12_literal_172 rfl 1 rfl (x_dup C dX12_literal_173 rfl (gM_X12_27 C u_5_107 dX12_literal_174 (x_iconst C dX12_literal_177 kc_1 (x_iadd C dX12_literal_178 (pM_X12_27 C u_5_107 dX12_literal_179 (x_vret E h dX12_literal_182)))))))))))))))))))))))))))))))))))))))))))
  · have h := ite_f h c
    exact x_vret E h dX12_literal_106
set_option maxHeartbeats 4000000 in
theorem w_m_literal_j80 {z : ZT} {ad : AD} {ek : EK} {lh : Launch} {Dh : va_G} {S' : ST} (C : CX z ad ek cX12_literal RX12 lh Dh 5 6) (E : EV z (cM ad) cX12_literal S') {S : ST} {l1 : Int32} {l2 : Int32} {l3 : Int32} {l4 : Int32} (h : m_literal_j80 S l1 l2 l3 l4 = some S') : XW z (cM ad) 80 [(0, .ref (ad.1 0)), (1, .int l1), (2, .int l2), (3, .int l3), (4, .int l4)] [] S := by
  unfold m_literal_j80 at h
  obtain ⟨S82, e82, h⟩ := calV_some h
  exact x_aload_n C dX12_literal_80 rfl 0 rfl (x_iconst C dX12_literal_81 kc_1 (x_callVv C (c_m_fail e82) k_X12_212 (ci := 12) (q0 := 0) rfl rfl (by decide) (Nat.le_of_ble_eq_true rfl) rfl dX12_literal_82 (w_m_literal_j85 C E h)))
set_option maxHeartbeats 4000000 in
theorem w_m_literal_j60 {z : ZT} {ad : AD} {ek : EK} {lh : Launch} {Dh : va_G} {S' : ST} (C : CX z ad ek cX12_literal RX12 lh Dh 5 6) (E : EV z (cM ad) cX12_literal S') {S : ST} {l1 : Int32} {l2 : Int32} {l3 : Int32} {s0 : Int32} (h : m_literal_j60 S l1 l2 l3 s0 = some S') : XW z (cM ad) 60 [(0, .ref (ad.1 0)), (1, .int l1), (2, .int l2), (3, .int l3)] [.int s0] S := by
  unfold m_literal_j60 at h
  refine x_istore C dX12_literal_60 (by decide) rfl (x_aload_n C dX12_literal_62 rfl 1 rfl (gM_X12_13 C u_5_93 dX12_literal_63 (x_if_ne C (tgt := 85) dX12_literal_66 (by decide) (fun c => ?_) (fun c => ?_))))
  · have h := ite_f h c
    exact x_perm [1, 2, 3, 4, 0] rfl (w_m_literal_j85 C E h)
  · have h := ite_t h c
    refine x_iload C dX12_literal_69 0 rfl (x_if_lt C (tgt := 80) dX12_literal_71 (by decide) (fun c => ?_) (fun c => ?_))
    · have h := ite_t h c
      exact x_perm [1, 2, 3, 4, 0] rfl (w_m_literal_j80 C E h)
    · have h := ite_f h c
      refine x_iload C dX12_literal_74 0 rfl (x_iconst C dX12_literal_76 kc_3 (x_icmp_le C (tgt := 85) dX12_literal_77 (by decide) (fun c => ?_) (fun c => ?_)))
      · have h := ite_t h c
        exact x_perm [1, 2, 3, 4, 0] rfl (w_m_literal_j85 C E h)
      · have h := ite_f h c
        exact x_perm [1, 2, 3, 4, 0] rfl (w_m_literal_j80 C E h)
set_option maxHeartbeats 4000000 in
theorem w_m_literal_j28 {z : ZT} {ad : AD} {ek : EK} {lh : Launch} {Dh : va_G} {S' : ST} (C : CX z ad ek cX12_literal RX12 lh Dh 5 6) (E : EV z (cM ad) cX12_literal S') {S : ST} {l1 : Int32} {l2 : Int32} (h : m_literal_j28 S l1 l2 = some S') : XW z (cM ad) 28 [(0, .ref (ad.1 0)), (1, .int l1), (2, .int l2)] [] S := by
  unfold m_literal_j28 at h
  obtain ⟨S34, e34, h⟩ := calV_some h
  refine x_aload_n C dX12_literal_28 rfl 0 rfl (gM_X12_34 C u_5_114 dX12_literal_29 (x_istore_n C dX12_literal_32 rfl (by decide) rfl (x_aload_n C dX12_literal_33 rfl 1 rfl (x_callVv C (c_m_expression e34) k_X12_249 (ci := 12) (q0 := 0) rfl rfl (by decide) (Nat.le_of_ble_eq_true rfl) rfl dX12_literal_34 (x_aload_n C dX12_literal_37 rfl 1 rfl (gM_X12_13 C u_5_93 dX12_literal_38 (x_if_le C (tgt := 48) dX12_literal_41 (by decide) (fun c => ?_) (fun c => ?_))))))))
  · have h := ite_t h c
    obtain ⟨g56, h⟩ := G_some h
    exact x_aload_n C dX12_literal_48 rfl 1 rfl (gM_X12_5 C u_5_85 dX12_literal_49 (x_aload_n C dX12_literal_52 rfl 1 rfl (gM_X12_11 C u_5_91 dX12_literal_53 (aM_3 C g56 dX12_literal_56 (x_bipush C dX12_literal_57 kb_11 (x_isub C dX12_literal_59 (x_perm [1, 2, 3, 0] rfl (w_m_literal_j60 C E h))))))))
  · have h := ite_f h c
    exact x_iconst C dX12_literal_44 kc_0 (x_goto C (tgt := 60) dX12_literal_45 (by decide) (x_perm [1, 2, 3, 0] rfl (w_m_literal_j60 C E h)))
set_option maxHeartbeats 4000000 in
theorem w_m_literal_j20 {z : ZT} {ad : AD} {ek : EK} {lh : Launch} {Dh : va_G} {S' : ST} (C : CX z ad ek cX12_literal RX12 lh Dh 5 6) (E : EV z (cM ad) cX12_literal S') {Kb : ST → Int32 → Int32 → Option ST} (hKb : ∀ (S : ST) (l1 : Int32) (l2 : Int32) , Kb S l1 l2 = some S' → XW z (cM ad) 2 [(0, .ref (ad.1 0)), (1, .int l1), (2, .int l2)] [] S) {K28 : ST → Int32 → Int32 → Option ST} (hK28 : ∀ (S : ST) (l1 : Int32) (l2 : Int32) , K28 S l1 l2 = some S' → XW z (cM ad) 28 [(0, .ref (ad.1 0)), (1, .int l1), (2, .int l2)] [] S) {S : ST} {l1 : Int32} {s0 : Int32} (h : m_literal_j20 Kb K28 S l1 s0 = some S') : XW z (cM ad) 20 [(0, .ref (ad.1 0)), (1, .int l1)] [.int s0] S := by
  unfold m_literal_j20 at h
  obtain ⟨S22, e22, h⟩ := calV_some h
  exact x_istore_n C dX12_literal_20 rfl (by decide) rfl (x_aload_n C dX12_literal_21 rfl 1 rfl (x_callVv C (c_m_next e22) k_X12_218 (ci := 12) (q0 := 0) rfl rfl (by decide) (Nat.le_of_ble_eq_true rfl) rfl dX12_literal_22 (x_goto C (tgt := 2) dX12_literal_25 (by decide) (x_perm [1, 2, 0] rfl (hKb _ _ _ h)))))
set_option maxHeartbeats 4000000 in
theorem w_m_literal_h2 {z : ZT} {ad : AD} {ek : EK} {lh : Launch} {Dh : va_G} {S' : ST} (C : CX z ad ek cX12_literal RX12 lh Dh 5 6) (E : EV z (cM ad) cX12_literal S') {K28 : ST → Int32 → Int32 → Option ST} (hK28 : ∀ (S : ST) (l1 : Int32) (l2 : Int32) , K28 S l1 l2 = some S' → XW z (cM ad) 28 [(0, .ref (ad.1 0)), (1, .int l1), (2, .int l2)] [] S) : ∀ (n : Nat) (S : ST) (l1 : Int32) (l2 : Int32), m_literal_h2 K28 n S l1 l2 = some S' → XW z (cM ad) 2 [(0, .ref (ad.1 0)), (1, .int l1), (2, .int l2)] [] S := by
  intro n
  induction n with
  | zero => intro S l1 l2 h; cases h
  | succ n ih =>
    intro S l1 l2 h
    have hKb := ih
    obtain ⟨r5, S5, e5, h⟩ := cal_some h
    refine x_aload_n C dX12_literal_2 rfl 0 rfl (x_bipush C dX12_literal_3 kb_31 (x_callVi C (c_m_is e5) k_X12_215 (ci := 12) (q0 := 0) rfl rfl (by decide) (Nat.le_of_ble_eq_true rfl) rfl dX12_literal_5 (x_if_eq C (tgt := 28) dX12_literal_8 (by decide) (fun c => ?_) (fun c => ?_))))
    · have h := ite_t h c
      exact hK28 _ _ _ h
    · have h := ite_f h c
      refine x_iload_n C dX12_literal_11 rfl 2 rfl (x_if_ne C (tgt := 19) dX12_literal_12 (by decide) (fun c => ?_) (fun c => ?_))
      · have h := ite_f h c
        exact x_iconst C dX12_literal_19 kc_0 (x_perm [0, 1] rfl (w_m_literal_j20 C E hKb hK28 h))
      · have h := ite_t h c
        exact x_iconst C dX12_literal_15 kc_1 (x_goto C (tgt := 20) dX12_literal_16 (by decide) (x_perm [0, 1] rfl (w_m_literal_j20 C E hKb hK28 h)))
set_option maxHeartbeats 4000000 in
theorem c_m_literal {ad : AD} {ek : EK} {lh : Launch} {Dh : va_G} {S' : ST}  {S : ST} {l1 : Int32} (h : m_literal S l1 = some S') : MXv lh Dh ad ek (cM ad) yX12_literal cX12_literal 6 none 5 [.ref (ad.1 0), .int l1] S S' := by
  refine mxv_of (by decide) (Nat.le_of_ble_eq_true rfl) (fun z C E => ?_)
  unfold m_literal at h
  exact x_iconst C dX12_literal_0 kc_0 (x_istore_n C dX12_literal_1 rfl (by decide) rfl (x_perm [1, 2, 0] rfl (w_m_literal_h2 C E (fun _ _ _ h => w_m_literal_j28 C E  h) FU _ _ _ h)))
set_option maxHeartbeats 4000000 in
theorem w_m_prints_j199 {z : ZT} {ad : AD} {ek : EK} {lh : Launch} {Dh : va_G} {S' : ST} (C : CX z ad ek cX12_prints RX12 lh Dh 6 7) (E : EV z (cM ad) cX12_prints S') {S : ST} {l1 : Int32} {l2 : Int32} {l3 : Int32} (h : m_prints_j199 S l1 l2 l3 = some S') : XW z (cM ad) 199 [(0, .ref (ad.1 0)), (1, .int l1), (2, .int l2), (3, .int l3)] [] S := by
  unfold m_prints_j199 at h
  obtain ⟨r204, S204, e204, h⟩ := cal_some h
  obtain ⟨g207, h⟩ := G_some h
  obtain ⟨S213, e213, h⟩ := calV_some h
  obtain ⟨r219, S219, e219, h⟩ := cal_some h
  exact x_aload_n C dX12_prints_199 rfl 0 rfl (x_aload_n C dX12_prints_200 rfl 0 rfl (x_iload_n C dX12_prints_201 rfl 1 rfl (x_iload_n C dX12_prints_202 rfl 2 rfl (x_iload_n C dX12_prints_203 rfl 3 rfl (x_callVi C (c_m_isStruckBy e204) k_X12_331 (ci := 12) (q0 := 0) rfl rfl (by decide) (Nat.le_of_ble_eq_true rfl) rfl dX12_prints_204 (pM_X12_57 C u_5_137 g207 dX12_prints_207 (x_aload_n C dX12_prints_210 rfl 0 rfl (x_iload_n C dX12_prints_211 rfl 1 rfl (x_iload_n C dX12_prints_212 rfl 2 rfl (x_callVv C (c_m_later e213) k_X12_354 (ci := 12) (q0 := 0) rfl rfl (by decide) (Nat.le_of_ble_eq_true rfl) rfl dX12_prints_213 (x_aload_n C dX12_prints_216 rfl 0 rfl (x_aload_n C dX12_prints_217 rfl 0 rfl (x_iconst C dX12_prints_218 kc_3 (x_callVi C (c_m_first e219) k_X12_339 (ci := 12) (q0 := 0) rfl rfl (by decide) (Nat.le_of_ble_eq_true rfl) rfl dX12_prints_219 (pM_X12_58 C u_5_138 dX12_prints_222 (x_vret E h dX12_prints_225))))))))))))))))
set_option maxHeartbeats 4000000 in
theorem w_m_prints_j193 {z : ZT} {ad : AD} {ek : EK} {lh : Launch} {Dh : va_G} {S' : ST} (C : CX z ad ek cX12_prints RX12 lh Dh 6 7) (E : EV z (cM ad) cX12_prints S') {Kb : ST → Int32 → Int32 → Int32 → Int32 → Int32 → Option ST} (hKb : ∀ (S : ST) (l1 : Int32) (l2 : Int32) (l3 : Int32) (l4 : Int32) (l5 : Int32) , Kb S l1 l2 l3 l4 l5 = some S' → XW z (cM ad) 113 [(0, .ref (ad.1 0)), (1, .int l1), (2, .int l2), (3, .int l3), (4, .int l4), (5, .int l5)] [] S) {K199 : ST → Int32 → Int32 → Int32 → Option ST} (hK199 : ∀ (S : ST) (l1 : Int32) (l2 : Int32) (l3 : Int32) , K199 S l1 l2 l3 = some S' → XW z (cM ad) 199 [(0, .ref (ad.1 0)), (1, .int l1), (2, .int l2), (3, .int l3)] [] S) {S : ST} {l1 : Int32} {l2 : Int32} {l3 : Int32} {l4 : Int32} {l5 : Int32} (h : m_prints_j193 Kb K199 S l1 l2 l3 l4 l5 = some S') : XW z (cM ad) 193 [(0, .ref (ad.1 0)), (1, .int l1), (2, .int l2), (3, .int l3), (4, .int l4), (5, .int l5)] [] S := by
  unfold m_prints_j193 at h
  exact x_iinc C dX12_prints_193 5 rfl ki_1 (by decide) rfl (x_goto C (tgt := 113) dX12_prints_196 (by decide) (x_perm [1, 2, 3, 4, 5, 0] rfl (hKb _ _ _ _ _ _ h)))
set_option maxHeartbeats 4000000 in
theorem w_m_prints_h113 {z : ZT} {ad : AD} {ek : EK} {lh : Launch} {Dh : va_G} {S' : ST} (C : CX z ad ek cX12_prints RX12 lh Dh 6 7) (E : EV z (cM ad) cX12_prints S') {K199 : ST → Int32 → Int32 → Int32 → Option ST} (hK199 : ∀ (S : ST) (l1 : Int32) (l2 : Int32) (l3 : Int32) , K199 S l1 l2 l3 = some S' → XW z (cM ad) 199 [(0, .ref (ad.1 0)), (1, .int l1), (2, .int l2), (3, .int l3)] [] S) : ∀ (n : Nat) (S : ST) (l1 : Int32) (l2 : Int32) (l3 : Int32) (l4 : Int32) (l5 : Int32), m_prints_h113 K199 n S l1 l2 l3 l4 l5 = some S' → XW z (cM ad) 113 [(0, .ref (ad.1 0)), (1, .int l1), (2, .int l2), (3, .int l3), (4, .int l4), (5, .int l5)] [] S := by
  intro n
  induction n with
  | zero => intro S l1 l2 l3 l4 l5 h; cases h
  | succ n ih =>
    intro S l1 l2 l3 l4 l5 h
    have hKb := ih
    refine x_iload C dX12_prints_113 5 rfl (x_iload_n C dX12_prints_115 rfl 3 rfl (x_icmp_ge C (tgt := 199) dX12_prints_116 (by decide) (fun c => ?_) (fun c => ?_)))
    · have h := ite_t h c
      exact x_perm [0, 1, 2, 3] rfl (hK199 _ _ _ _ h)
    · have h := ite_f h c
      refine x_iload C dX12_prints_119 5 rfl (x_iload C dX12_prints_121 4 rfl (x_icmp_ge C (tgt := 199) dX12_prints_123 (by decide) (fun c => ?_) (fun c => ?_)))
      · have h := ite_t h c
        exact x_perm [0, 1, 2, 3] rfl (hK199 _ _ _ _ h)
      · have h := ite_f h c
        obtain ⟨g132, h⟩ := G_some h
        refine x_aload_n C dX12_prints_126 rfl 0 rfl (gM_X12_46 C u_5_126 dX12_prints_127 (x_iload C dX12_prints_130 5 rfl (aM_28 C g132 dX12_prints_132 (x_iconst C dX12_prints_133 kc_4 (x_icmp_ne C (tgt := 193) dX12_prints_134 (by decide) (fun c => ?_) (fun c => ?_))))))
        · have h := ite_f h c
          exact w_m_prints_j193 C E hKb hK199 h
        · have h := ite_t h c
          obtain ⟨g143, h⟩ := G_some h
          refine x_aload_n C dX12_prints_137 rfl 0 rfl (gM_X12_48 C u_5_128 dX12_prints_138 (x_iload C dX12_prints_141 5 rfl (aM_30 C g143 dX12_prints_143 (x_iload_n C dX12_prints_144 rfl 1 rfl (x_icmp_ne C (tgt := 193) dX12_prints_145 (by decide) (fun c => ?_) (fun c => ?_))))))
          · have h := ite_f h c
            exact w_m_prints_j193 C E hKb hK199 h
          · have h := ite_t h c
            obtain ⟨g154, h⟩ := G_some h
            refine x_aload_n C dX12_prints_148 rfl 0 rfl (gM_X12_47 C u_5_127 dX12_prints_149 (x_iload C dX12_prints_152 5 rfl (aM_29 C g154 dX12_prints_154 (x_iload_n C dX12_prints_155 rfl 2 rfl (x_icmp_gt C (tgt := 193) dX12_prints_156 (by decide) (fun c => ?_) (fun c => ?_))))))
            · have h := ite_t h c
              exact w_m_prints_j193 C E hKb hK199 h
            · have h := ite_f h c
              obtain ⟨r163, S163, e163, h⟩ := cal_some h
              refine x_aload_n C dX12_prints_159 rfl 0 rfl (x_iload C dX12_prints_160 5 rfl (x_iload_n C dX12_prints_162 rfl 3 rfl (x_callVi C (c_m_fateOf e163) k_X12_348 (ci := 12) (q0 := 0) rfl rfl (by decide) (Nat.le_of_ble_eq_true rfl) rfl dX12_prints_163 (x_if_eq C (tgt := 172) dX12_prints_166 (by decide) (fun c => ?_) (fun c => ?_)))))
              · have h := ite_t h c
                obtain ⟨g179, h⟩ := G_some h
                exact x_aload_n C dX12_prints_172 rfl 0 rfl (x_aload_n C dX12_prints_173 rfl 0 rfl (gM_X12_49 C u_5_129 dX12_prints_174 (x_iload C dX12_prints_177 5 rfl (aM_31 C g179 dX12_prints_179 (pM_X12_54 C u_5_134 dX12_prints_180 (x_aload_n C dX12_prints_183 rfl 0 rfl (x_dup C dX12_prints_184 rfl (gM_X12_55 C u_5_135 dX12_prints_185 (x_iconst C dX12_prints_188 kc_1 (x_iadd C dX12_prints_189 (pM_X12_55 C u_5_135 dX12_prints_190 (w_m_prints_j193 C E hKb hK199 h))))))))))))
              · have h := ite_f h c
                exact x_goto C (tgt := 193) dX12_prints_169 (by decide) (w_m_prints_j193 C E hKb hK199 h)
set_option maxHeartbeats 4000000 in
theorem w_m_prints_j108 {z : ZT} {ad : AD} {ek : EK} {lh : Launch} {Dh : va_G} {S' : ST} (C : CX z ad ek cX12_prints RX12 lh Dh 6 7) (E : EV z (cM ad) cX12_prints S') {S : ST} {l1 : Int32} {l2 : Int32} {l3 : Int32} {l4 : Int32} (h : m_prints_j108 S l1 l2 l3 l4 = some S') : XW z (cM ad) 108 [(0, .ref (ad.1 0)), (1, .int l1), (2, .int l2), (3, .int l3), (4, .int l4)] [] S := by
  unfold m_prints_j108 at h
  exact x_iload_n C dX12_prints_108 rfl 1 rfl (x_iconst C dX12_prints_109 kc_1 (x_iadd C dX12_prints_110 (x_istore C dX12_prints_111 (by decide) rfl (x_perm [1, 2, 3, 4, 5, 0] rfl (w_m_prints_h113 C E (fun _ _ _ _ h => w_m_prints_j199 C E  h) FU _ _ _ _ _ _ h)))))
set_option maxHeartbeats 4000000 in
theorem w_m_prints_j105 {z : ZT} {ad : AD} {ek : EK} {lh : Launch} {Dh : va_G} {S' : ST} (C : CX z ad ek cX12_prints RX12 lh Dh 6 7) (E : EV z (cM ad) cX12_prints S') {S : ST} {l1 : Int32} {l2 : Int32} {l3 : Int32} {l4 : Int32} {s0 : Int32} (h : m_prints_j105 S l1 l2 l3 l4 s0 = some S') : XW z (cM ad) 105 [(0, .ref (ad.1 0)), (1, .int l1), (2, .int l2), (3, .int l3), (4, .int l4)] [.int s0, .ref (ad.1 0)] S := by
  unfold m_prints_j105 at h
  exact pM_X12_54 C u_5_134 dX12_prints_105 (w_m_prints_j108 C E h)
set_option maxHeartbeats 4000000 in
theorem c_m_prints {ad : AD} {ek : EK} {lh : Launch} {Dh : va_G} {S' : ST}  {S : ST} {l1 : Int32} {l2 : Int32} {l3 : Int32} {l4 : Int32} (h : m_prints S l1 l2 l3 l4 = some S') : MXv lh Dh ad ek (cM ad) yX12_prints cX12_prints 7 none 6 [.ref (ad.1 0), .int l1, .int l2, .int l3, .int l4] S S' := by
  refine mxv_of (by decide) (Nat.le_of_ble_eq_true rfl) (fun z C E => ?_)
  unfold m_prints at h
  obtain ⟨S3, e3, h⟩ := calV_some h
  obtain ⟨g12, h⟩ := G_some h
  obtain ⟨g27, h⟩ := G_some h
  obtain ⟨S28, e28, h⟩ := calV_some h
  obtain ⟨r34, S34, e34, h⟩ := cal_some h
  refine x_aload_n C dX12_prints_0 rfl 0 rfl (x_iload_n C dX12_prints_1 rfl 1 rfl (x_iload_n C dX12_prints_2 rfl 3 rfl (x_callVv C (c_m_fills e3) k_X12_342 (ci := 12) (q0 := 0) rfl rfl (by decide) (Nat.le_of_ble_eq_true rfl) rfl dX12_prints_3 (x_aload_n C dX12_prints_6 rfl 0 rfl (x_aload_n C dX12_prints_7 rfl 0 rfl (gM_X12_51 C u_5_131 dX12_prints_8 (x_iload_n C dX12_prints_11 rfl 1 rfl (aM_33 C g12 dX12_prints_12 (pM_X12_54 C u_5_134 dX12_prints_13 (x_aload_n C dX12_prints_16 rfl 0 rfl (x_iconst C dX12_prints_17 kc_0 (pM_X12_55 C u_5_135 dX12_prints_18 (x_aload_n C dX12_prints_21 rfl 0 rfl (x_aload_n C dX12_prints_22 rfl 0 rfl (gM_X12_47 C u_5_127 dX12_prints_23 (x_iload_n C dX12_prints_26 rfl 1 rfl (aM_29 C g27 dX12_prints_27 (x_callVv C (c_m_forces e28) k_X12_295 (ci := 12) (q0 := 0) rfl rfl (by decide) (Nat.le_of_ble_eq_true rfl) rfl dX12_prints_28 (x_aload_n C dX12_prints_31 rfl 0 rfl (x_aload_n C dX12_prints_32 rfl 0 rfl (x_iconst C dX12_prints_33 kc_0 (x_callVi C (c_m_first e34) k_X12_339 (ci := 12) (q0 := 0) rfl rfl (by decide) (Nat.le_of_ble_eq_true rfl) rfl dX12_prints_34 (pM_X12_56 C u_5_136 dX12_prints_37 (x_aload_n C dX12_prints_40 rfl 0 rfl (gM_X12_56 C u_5_136 dX12_prints_41 (x_iconst C dX12_prints_44 kc_m1 (x_icmp_eq C (tgt := 108) dX12_prints_45 (by decide) (fun c => ?_) (fun c => ?_))))))))))))))))))))))))))))
  · have h := ite_t h c
    exact w_m_prints_j108 C E h
  · have h := ite_f h c
    obtain ⟨g56, h⟩ := G_some h
    obtain ⟨g66, h⟩ := G_some h
    obtain ⟨g73, h⟩ := G_some h
    obtain ⟨r74, S74, e74, h⟩ := cal_some h
    refine x_aload_n C dX12_prints_48 rfl 0 rfl (gM_X12_44 C u_5_124 dX12_prints_49 (x_aload_n C dX12_prints_52 rfl 0 rfl (gM_X12_56 C u_5_136 dX12_prints_53 (aM_27 C g56 dX12_prints_56 (x_istore C dX12_prints_57 (by decide) rfl (x_aload_n C dX12_prints_59 rfl 1 rfl (x_aload_n C dX12_prints_60 rfl 1 rfl (gM_X12_23 C u_5_103 dX12_prints_61 (x_iload C dX12_prints_64 0 rfl (aM_12 C g66 dX12_prints_66 (x_aload_n C dX12_prints_67 rfl 1 rfl (gM_X12_24 C u_5_104 dX12_prints_68 (x_iload C dX12_prints_71 0 rfl (aM_13 C g73 dX12_prints_73 (x_callVi C (c_m_termOf e74) k_X12_272 (ci := 12) (q0 := 0) rfl rfl (by decide) (Nat.le_of_ble_eq_true rfl) rfl dX12_prints_74 (x_istore C dX12_prints_77 (by decide) rfl (x_aload_n C dX12_prints_79 rfl 2 rfl (x_iload C dX12_prints_80 0 rfl (x_if_ge C (tgt := 89) dX12_prints_82 (by decide) (fun c => ?_) (fun c => ?_))))))))))))))))))))
    · have h := ite_t h c
      refine x_iload C dX12_prints_89 0 rfl (x_sipush C dX12_prints_91 ks_999 (x_icmp_le C (tgt := 103) dX12_prints_94 (by decide) (fun c => ?_) (fun c => ?_)))
      · have h := ite_t h c
        exact x_iload C dX12_prints_103 0 rfl (x_perm [2, 3, 4, 5, 6] rfl (w_m_prints_j105 C E h))
      · have h := ite_f h c
        exact x_sipush C dX12_prints_97 ks_999 (x_goto C (tgt := 105) dX12_prints_100 (by decide) (x_perm [2, 3, 4, 5, 6] rfl (w_m_prints_j105 C E h)))
    · have h := ite_f h c
      exact x_iconst C dX12_prints_85 kc_0 (x_goto C (tgt := 105) dX12_prints_86 (by decide) (x_perm [2, 3, 4, 5, 6] rfl (w_m_prints_j105 C E h)))
set_option maxHeartbeats 4000000 in
theorem w_m_tellRule_j309 {z : ZT} {ad : AD} {ek : EK} {lh : Launch} {Dh : va_G} {S' : ST} (C : CX z ad ek cX12_tellRule RX12 lh Dh 6 6) (E : EV z (cM ad) cX12_tellRule S') {S : ST} {l3 : Int32} (h : m_tellRule_j309 S l3 = some S') : XW z (cM ad) 309 [(0, .ref (ad.1 0)), (3, .int l3)] [] S := by
  unfold m_tellRule_j309 at h
  obtain ⟨S311, e311, h⟩ := calV_some h
  obtain ⟨g323, h⟩ := G_some h
  refine x_aload_n C dX12_tellRule_309 rfl 0 rfl (x_iconst C dX12_tellRule_310 kc_4 (x_callVv C (c_m_must e311) k_X12_236 (ci := 12) (q0 := 0) rfl rfl (by decide) (Nat.le_of_ble_eq_true rfl) rfl dX12_tellRule_311 (x_aload_n C dX12_tellRule_314 rfl 0 rfl (gM_X12_26 C u_5_106 dX12_tellRule_315 (x_iload_n C dX12_tellRule_318 rfl 1 rfl (x_aload_n C dX12_tellRule_319 rfl 0 rfl (gM_X12_27 C u_5_107 dX12_tellRule_320 (sM_15 C g323 dX12_tellRule_323 (x_aload_n C dX12_tellRule_324 rfl 0 rfl (gM_X12_13 C u_5_93 dX12_tellRule_325 (x_if_ne C (tgt := 344) dX12_tellRule_328 (by decide) (fun c => ?_) (fun c => ?_))))))))))))
  · have h := ite_f h c
    exact x_vret E h dX12_tellRule_344
  · have h := ite_t h c
    obtain ⟨g340, h⟩ := G_some h
    obtain ⟨g343, h⟩ := G_some h
    exact x_aload_n C dX12_tellRule_331 rfl 0 rfl (gM_X12_20 C u_5_100 dX12_tellRule_332 (x_aload_n C dX12_tellRule_335 rfl 0 rfl (gM_X12_18 C u_5_98 dX12_tellRule_336 (x_dup2 C dX12_tellRule_339 rfl rfl (aM_9 C g340 dX12_tellRule_340 (x_iconst C dX12_tellRule_341 kc_1 (x_iadd C dX12_tellRule_342 (sM_9 C g343 dX12_tellRule_343 (x_vret E h dX12_tellRule_344)))))))))
set_option maxHeartbeats 4000000 in
theorem w_m_tellRule_j295 {z : ZT} {ad : AD} {ek : EK} {lh : Launch} {Dh : va_G} {S' : ST} (C : CX z ad ek cX12_tellRule RX12 lh Dh 6 6) (E : EV z (cM ad) cX12_tellRule S') {Kb : ST → Int32 → Int32 → Int32 → Option ST} (hKb : ∀ (S : ST) (l3 : Int32) (l4 : Int32) (l5 : Int32) , Kb S l3 l4 l5 = some S' → XW z (cM ad) 250 [(0, .ref (ad.1 0)), (3, .int l3), (4, .int l4), (5, .int l5)] [] S) {K309 : ST → Int32 → Option ST} (hK309 : ∀ (S : ST) (l3 : Int32) , K309 S l3 = some S' → XW z (cM ad) 309 [(0, .ref (ad.1 0)), (3, .int l3)] [] S) {S : ST} {l3 : Int32} {l5 : Int32} {s0 : Int32} (h : m_tellRule_j295 Kb K309 S l3 l5 s0 = some S') : XW z (cM ad) 295 [(0, .ref (ad.1 0)), (3, .int l3), (5, .int l5)] [.int s0] S := by
  unfold m_tellRule_j295 at h
  refine x_istore C dX12_tellRule_295 (by decide) rfl (x_iload C dX12_tellRule_297 0 rfl (x_if_eq C (tgt := 250) dX12_tellRule_299 (by decide) (fun c => ?_) (fun c => ?_)))
  · have h := ite_t h c
    exact x_perm [1, 2, 0, 3] rfl (hKb _ _ _ _ h)
  · have h := ite_f h c
    obtain ⟨S303, e303, h⟩ := calV_some h
    exact x_aload_n C dX12_tellRule_302 rfl 1 rfl (x_callVv C (c_m_next e303) k_X12_218 (ci := 12) (q0 := 0) rfl rfl (by decide) (Nat.le_of_ble_eq_true rfl) rfl dX12_tellRule_303 (x_goto C (tgt := 250) dX12_tellRule_306 (by decide) (x_perm [1, 2, 0, 3] rfl (hKb _ _ _ _ h))))
set_option maxHeartbeats 4000000 in
theorem w_m_tellRule_j290 {z : ZT} {ad : AD} {ek : EK} {lh : Launch} {Dh : va_G} {S' : ST} (C : CX z ad ek cX12_tellRule RX12 lh Dh 6 6) (E : EV z (cM ad) cX12_tellRule S') {Kb : ST → Int32 → Int32 → Int32 → Option ST} (hKb : ∀ (S : ST) (l3 : Int32) (l4 : Int32) (l5 : Int32) , Kb S l3 l4 l5 = some S' → XW z (cM ad) 250 [(0, .ref (ad.1 0)), (3, .int l3), (4, .int l4), (5, .int l5)] [] S) {K309 : ST → Int32 → Option ST} (hK309 : ∀ (S : ST) (l3 : Int32) , K309 S l3 = some S' → XW z (cM ad) 309 [(0, .ref (ad.1 0)), (3, .int l3)] [] S) {S : ST} {l3 : Int32} {l5 : Int32} (h : m_tellRule_j290 Kb K309 S l3 l5 = some S') : XW z (cM ad) 290 [(0, .ref (ad.1 0)), (3, .int l3), (5, .int l5)] [] S := by
  unfold m_tellRule_j290 at h
  exact x_iconst C dX12_tellRule_290 kc_1 (x_goto C (tgt := 295) dX12_tellRule_291 (by decide) (w_m_tellRule_j295 C E hKb hK309 h))
set_option maxHeartbeats 4000000 in
theorem w_m_tellRule_h250 {z : ZT} {ad : AD} {ek : EK} {lh : Launch} {Dh : va_G} {S' : ST} (C : CX z ad ek cX12_tellRule RX12 lh Dh 6 6) (E : EV z (cM ad) cX12_tellRule S') {K309 : ST → Int32 → Option ST} (hK309 : ∀ (S : ST) (l3 : Int32) , K309 S l3 = some S' → XW z (cM ad) 309 [(0, .ref (ad.1 0)), (3, .int l3)] [] S) : ∀ (n : Nat) (S : ST) (l3 : Int32) (l4 : Int32) (l5 : Int32), m_tellRule_h250 K309 n S l3 l4 l5 = some S' → XW z (cM ad) 250 [(0, .ref (ad.1 0)), (3, .int l3), (4, .int l4), (5, .int l5)] [] S := by
  intro n
  induction n with
  | zero => intro S l3 l4 l5 h; cases h
  | succ n ih =>
    intro S l3 l4 l5 h
    have hKb := ih
    refine x_iload C dX12_tellRule_250 2 rfl (x_if_eq C (tgt := 309) dX12_tellRule_252 (by decide) (fun c => ?_) (fun c => ?_))
    · have h := ite_t h c
      exact x_perm [0, 1] rfl (hK309 _ _ h)
    · have h := ite_f h c
      refine x_aload_n C dX12_tellRule_255 rfl 0 rfl (gM_X12_13 C u_5_93 dX12_tellRule_256 (x_if_ne C (tgt := 309) dX12_tellRule_259 (by decide) (fun c => ?_) (fun c => ?_)))
      · have h := ite_f h c
        exact x_perm [0, 1] rfl (hK309 _ _ h)
      · have h := ite_t h c
        obtain ⟨S265, e265, h⟩ := calV_some h
        obtain ⟨r271, S271, e271, h⟩ := cal_some h
        refine x_aload_n C dX12_tellRule_262 rfl 0 rfl (x_iload C dX12_tellRule_263 3 rfl (x_callVv C (c_m_literal e265) k_X12_252 (ci := 12) (q0 := 0) rfl rfl (by decide) (Nat.le_of_ble_eq_true rfl) rfl dX12_tellRule_265 (x_aload_n C dX12_tellRule_268 rfl 0 rfl (x_bipush C dX12_tellRule_269 kb_29 (x_callVi C (c_m_is e271) k_X12_215 (ci := 12) (q0 := 0) rfl rfl (by decide) (Nat.le_of_ble_eq_true rfl) rfl dX12_tellRule_271 (x_istore C dX12_tellRule_274 (by decide) rfl (x_iload C dX12_tellRule_276 0 rfl (x_if_ne C (tgt := 290) dX12_tellRule_278 (by decide) (fun c => ?_) (fun c => ?_)))))))))
        · have h := ite_f h c
          exact x_perm [1, 2, 0] rfl (w_m_tellRule_j290 C E hKb hK309 h)
        · have h := ite_t h c
          obtain ⟨r284, S284, e284, h⟩ := cal_some h
          refine x_aload_n C dX12_tellRule_281 rfl 1 rfl (x_bipush C dX12_tellRule_282 kb_30 (x_callVi C (c_m_is e284) k_X12_215 (ci := 12) (q0 := 0) rfl rfl (by decide) (Nat.le_of_ble_eq_true rfl) rfl dX12_tellRule_284 (x_if_eq C (tgt := 294) dX12_tellRule_287 (by decide) (fun c => ?_) (fun c => ?_))))
          · have h := ite_t h c
            exact x_iconst C dX12_tellRule_294 kc_0 (x_perm [1, 2, 0] rfl (w_m_tellRule_j295 C E hKb hK309 h))
          · have h := ite_f h c
            exact x_perm [1, 2, 0] rfl (w_m_tellRule_j290 C E hKb hK309 h)
set_option maxHeartbeats 4000000 in
theorem w_m_tellRule_j247 {z : ZT} {ad : AD} {ek : EK} {lh : Launch} {Dh : va_G} {S' : ST} (C : CX z ad ek cX12_tellRule RX12 lh Dh 6 6) (E : EV z (cM ad) cX12_tellRule S') {S : ST} {l3 : Int32} {l4 : Int32} (h : m_tellRule_j247 S l3 l4 = some S') : XW z (cM ad) 247 [(0, .ref (ad.1 0)), (3, .int l3), (4, .int l4)] [] S := by
  unfold m_tellRule_j247 at h
  exact x_iconst C dX12_tellRule_247 kc_1 (x_istore C dX12_tellRule_248 (by decide) rfl (x_perm [1, 2, 3, 0] rfl (w_m_tellRule_h250 C E (fun _ _ h => w_m_tellRule_j309 C E  h) FU _ _ _ _ h)))
set_option maxHeartbeats 4000000 in
theorem w_m_tellRule_j238 {z : ZT} {ad : AD} {ek : EK} {lh : Launch} {Dh : va_G} {S' : ST} (C : CX z ad ek cX12_tellRule RX12 lh Dh 6 6) (E : EV z (cM ad) cX12_tellRule S') {S : ST} {l3 : Int32} {l4 : Int32} (h : m_tellRule_j238 S l3 l4 = some S') : XW z (cM ad) 238 [(0, .ref (ad.1 0)), (3, .int l3), (4, .int l4)] [] S := by
  unfold m_tellRule_j238 at h
  refine x_iload C dX12_tellRule_238 2 rfl (x_if_eq C (tgt := 247) dX12_tellRule_240 (by decide) (fun c => ?_) (fun c => ?_))
  · have h := ite_t h c
    exact w_m_tellRule_j247 C E h
  · have h := ite_f h c
    obtain ⟨S244, e244, h⟩ := calV_some h
    exact x_aload_n C dX12_tellRule_243 rfl 0 rfl (x_callVv C (c_m_next e244) k_X12_218 (ci := 12) (q0 := 0) rfl rfl (by decide) (Nat.le_of_ble_eq_true rfl) rfl dX12_tellRule_244 (w_m_tellRule_j247 C E h))
set_option maxHeartbeats 4000000 in
theorem w_m_tellRule_j218 {z : ZT} {ad : AD} {ek : EK} {lh : Launch} {Dh : va_G} {S' : ST} (C : CX z ad ek cX12_tellRule RX12 lh Dh 6 6) (E : EV z (cM ad) cX12_tellRule S') {S : ST} {l2 : Int32} {l3 : Int32} {s0 : Int32} (h : m_tellRule_j218 S l2 l3 s0 = some S') : XW z (cM ad) 218 [(0, .ref (ad.1 0)), (2, .int l2), (3, .int l3)] [.int s0] S := by
  unfold m_tellRule_j218 at h
  refine x_istore C dX12_tellRule_218 (by decide) rfl (x_iload_n C dX12_tellRule_220 rfl 2 rfl (x_if_le C (tgt := 238) dX12_tellRule_221 (by decide) (fun c => ?_) (fun c => ?_)))
  · have h := ite_t h c
    exact x_perm [1, 3, 0] rfl (w_m_tellRule_j238 C E h)
  · have h := ite_f h c
    refine x_iload_n C dX12_tellRule_224 rfl 2 rfl (x_iconst C dX12_tellRule_225 kc_5 (x_icmp_ge C (tgt := 238) dX12_tellRule_226 (by decide) (fun c => ?_) (fun c => ?_)))
    · have h := ite_t h c
      exact x_perm [1, 3, 0] rfl (w_m_tellRule_j238 C E h)
    · have h := ite_f h c
      obtain ⟨S232, e232, h⟩ := calV_some h
      exact x_aload_n C dX12_tellRule_229 rfl 1 rfl (x_bipush C dX12_tellRule_230 kb_23 (x_callVv C (c_m_must e232) k_X12_236 (ci := 12) (q0 := 0) rfl rfl (by decide) (Nat.le_of_ble_eq_true rfl) rfl dX12_tellRule_232 (x_goto C (tgt := 247) dX12_tellRule_235 (by decide) (x_perm [1, 3, 0] rfl (w_m_tellRule_j247 C E h)))))
set_option maxHeartbeats 4000000 in
theorem w_m_tellRule_j217 {z : ZT} {ad : AD} {ek : EK} {lh : Launch} {Dh : va_G} {S' : ST} (C : CX z ad ek cX12_tellRule RX12 lh Dh 6 6) (E : EV z (cM ad) cX12_tellRule S') {S : ST} {l2 : Int32} {l3 : Int32} (h : m_tellRule_j217 S l2 l3 = some S') : XW z (cM ad) 217 [(0, .ref (ad.1 0)), (2, .int l2), (3, .int l3)] [] S := by
  unfold m_tellRule_j217 at h
  exact x_iconst C dX12_tellRule_217 kc_0 (w_m_tellRule_j218 C E h)
set_option maxHeartbeats 4000000 in
theorem w_m_tellRule_j179 {z : ZT} {ad : AD} {ek : EK} {lh : Launch} {Dh : va_G} {S' : ST} (C : CX z ad ek cX12_tellRule RX12 lh Dh 6 6) (E : EV z (cM ad) cX12_tellRule S') {S : ST} {l2 : Int32} {l3 : Int32} (h : m_tellRule_j179 S l2 l3 = some S') : XW z (cM ad) 179 [(0, .ref (ad.1 0)), (2, .int l2), (3, .int l3)] [] S := by
  unfold m_tellRule_j179 at h
  obtain ⟨g188, h⟩ := G_some h
  obtain ⟨g198, h⟩ := G_some h
  obtain ⟨r202, S202, e202, h⟩ := cal_some h
  refine x_aload_n C dX12_tellRule_179 rfl 0 rfl (gM_X12_24 C u_5_104 dX12_tellRule_180 (x_iload_n C dX12_tellRule_183 rfl 2 rfl (x_aload_n C dX12_tellRule_184 rfl 0 rfl (gM_X12_34 C u_5_114 dX12_tellRule_185 (sM_13 C g188 dX12_tellRule_188 (x_aload_n C dX12_tellRule_189 rfl 0 rfl (gM_X12_25 C u_5_105 dX12_tellRule_190 (x_iload_n C dX12_tellRule_193 rfl 2 rfl (x_aload_n C dX12_tellRule_194 rfl 0 rfl (gM_X12_27 C u_5_107 dX12_tellRule_195 (sM_14 C g198 dX12_tellRule_198 (x_aload_n C dX12_tellRule_199 rfl 0 rfl (x_bipush C dX12_tellRule_200 kb_23 (x_callVi C (c_m_is e202) k_X12_215 (ci := 12) (q0 := 0) rfl rfl (by decide) (Nat.le_of_ble_eq_true rfl) rfl dX12_tellRule_202 (x_if_eq C (tgt := 217) dX12_tellRule_205 (by decide) (fun c => ?_) (fun c => ?_))))))))))))))))
  · have h := ite_t h c
    exact w_m_tellRule_j217 C E h
  · have h := ite_f h c
    refine x_iload_n C dX12_tellRule_208 rfl 1 rfl (x_iconst C dX12_tellRule_209 kc_5 (x_icmp_eq C (tgt := 217) dX12_tellRule_210 (by decide) (fun c => ?_) (fun c => ?_)))
    · have h := ite_t h c
      exact w_m_tellRule_j217 C E h
    · have h := ite_f h c
      exact x_iconst C dX12_tellRule_213 kc_1 (x_goto C (tgt := 218) dX12_tellRule_214 (by decide) (w_m_tellRule_j218 C E h))
set_option maxHeartbeats 4000000 in
theorem w_m_tellRule_j98 {z : ZT} {ad : AD} {ek : EK} {lh : Launch} {Dh : va_G} {S' : ST} (C : CX z ad ek cX12_tellRule RX12 lh Dh 6 6) (E : EV z (cM ad) cX12_tellRule S') {S : ST} {l2 : Int32} (h : m_tellRule_j98 S l2 = some S') : XW z (cM ad) 98 [(0, .ref (ad.1 0)), (2, .int l2)] [] S := by
  unfold m_tellRule_j98 at h
  refine x_aload_n C dX12_tellRule_98 rfl 0 rfl (gM_X12_13 C u_5_93 dX12_tellRule_99 (x_if_le C (tgt := 106) dX12_tellRule_102 (by decide) (fun c => ?_) (fun c => ?_)))
  · have h := ite_t h c
    obtain ⟨g121, h⟩ := G_some h
    obtain ⟨S125, e125, h⟩ := calV_some h
    obtain ⟨g134, h⟩ := G_some h
    obtain ⟨g148, h⟩ := G_some h
    obtain ⟨g149, h⟩ := G_some h
    obtain ⟨S152, e152, h⟩ := calV_some h
    obtain ⟨g164, h⟩ := G_some h
    refine x_bipush C dX12_tellRule_106 kb_24 (x_aload_n C dX12_tellRule_108 rfl 0 rfl (gM_X12_18 C u_5_98 dX12_tellRule_109 (x_imul C dX12_tellRule_112 (x_aload_n C dX12_tellRule_113 rfl 0 rfl (gM_X12_20 C u_5_100 dX12_tellRule_114 (x_aload_n C dX12_tellRule_117 rfl 0 rfl (gM_X12_18 C u_5_98 dX12_tellRule_118 (aM_9 C g121 dX12_tellRule_121 (x_iadd C dX12_tellRule_122 (x_istore_n C dX12_tellRule_123 rfl (by decide) rfl (x_aload_n C dX12_tellRule_124 rfl 1 rfl (x_callVv C (c_m_next e125) k_X12_218 (ci := 12) (q0 := 0) rfl rfl (by decide) (Nat.le_of_ble_eq_true rfl) rfl dX12_tellRule_125 (x_aload_n C dX12_tellRule_128 rfl 1 rfl (gM_X12_21 C u_5_101 dX12_tellRule_129 (x_iload_n C dX12_tellRule_132 rfl 0 rfl (x_iload_n C dX12_tellRule_133 rfl 2 rfl (sM_10 C g134 dX12_tellRule_134 (x_aload_n C dX12_tellRule_135 rfl 1 rfl (gM_X12_22 C u_5_102 dX12_tellRule_136 (x_iload_n C dX12_tellRule_139 rfl 0 rfl (x_aload_n C dX12_tellRule_140 rfl 1 rfl (gM_X12_8 C u_5_88 dX12_tellRule_141 (x_aload_n C dX12_tellRule_144 rfl 1 rfl (gM_X12_11 C u_5_91 dX12_tellRule_145 (aM_6 C g148 dX12_tellRule_148 (sM_11 C g149 dX12_tellRule_149 (x_aload_n C dX12_tellRule_150 rfl 1 rfl (x_iconst C dX12_tellRule_151 kc_1 (x_callVv C (c_m_must e152) k_X12_236 (ci := 12) (q0 := 0) rfl rfl (by decide) (Nat.le_of_ble_eq_true rfl) rfl dX12_tellRule_152 (x_aload_n C dX12_tellRule_155 rfl 1 rfl (gM_X12_23 C u_5_103 dX12_tellRule_156 (x_iload_n C dX12_tellRule_159 rfl 0 rfl (x_aload_n C dX12_tellRule_160 rfl 1 rfl (gM_X12_34 C u_5_114 dX12_tellRule_161 (sM_12 C g164 dX12_tellRule_164 (x_iload_n C dX12_tellRule_165 rfl 2 rfl (x_if_ne C (tgt := 179) dX12_tellRule_166 (by decide) (fun c => ?_) (fun c => ?_))))))))))))))))))))))))))))))))))))))
    · have h := ite_f h c
      exact x_perm [1, 2, 0] rfl (w_m_tellRule_j179 C E h)
    · have h := ite_t h c
      obtain ⟨S172, e172, h⟩ := calV_some h
      obtain ⟨S176, e176, h⟩ := calV_some h
      exact x_aload_n C dX12_tellRule_169 rfl 1 rfl (x_bipush C dX12_tellRule_170 kb_22 (x_callVv C (c_m_must e172) k_X12_236 (ci := 12) (q0 := 0) rfl rfl (by decide) (Nat.le_of_ble_eq_true rfl) rfl dX12_tellRule_172 (x_aload_n C dX12_tellRule_175 rfl 1 rfl (x_callVv C (c_m_expression e176) k_X12_249 (ci := 12) (q0 := 0) rfl rfl (by decide) (Nat.le_of_ble_eq_true rfl) rfl dX12_tellRule_176 (x_perm [1, 2, 0] rfl (w_m_tellRule_j179 C E h))))))
  · have h := ite_f h c
    exact x_vret E h dX12_tellRule_105
set_option maxHeartbeats 4000000 in
theorem w_m_tellRule_j65 {z : ZT} {ad : AD} {ek : EK} {lh : Launch} {Dh : va_G} {S' : ST} (C : CX z ad ek cX12_tellRule RX12 lh Dh 6 6) (E : EV z (cM ad) cX12_tellRule S') {S : ST} {s0 : Int32} (h : m_tellRule_j65 S s0 = some S') : XW z (cM ad) 65 [(0, .ref (ad.1 0))] [.int s0] S := by
  unfold m_tellRule_j65 at h
  refine x_istore_n C dX12_tellRule_65 rfl (by decide) rfl (x_iload_n C dX12_tellRule_66 rfl 0 rfl (x_iconst C dX12_tellRule_67 kc_m1 (x_icmp_ne C (tgt := 79) dX12_tellRule_68 (by decide) (fun c => ?_) (fun c => ?_))))
  · have h := ite_f h c
    obtain ⟨g87, h⟩ := G_some h
    refine x_aload_n C dX12_tellRule_79 rfl 1 rfl (gM_X12_20 C u_5_100 dX12_tellRule_80 (x_aload_n C dX12_tellRule_83 rfl 1 rfl (gM_X12_18 C u_5_98 dX12_tellRule_84 (aM_9 C g87 dX12_tellRule_87 (x_bipush C dX12_tellRule_88 kb_24 (x_icmp_ne C (tgt := 98) dX12_tellRule_90 (by decide) (fun c => ?_) (fun c => ?_)))))))
    · have h := ite_f h c
      exact x_perm [1, 0] rfl (w_m_tellRule_j98 C E h)
    · have h := ite_t h c
      obtain ⟨S95, e95, h⟩ := calV_some h
      exact x_aload_n C dX12_tellRule_93 rfl 1 rfl (x_iconst C dX12_tellRule_94 kc_2 (x_callVv C (c_m_fail e95) k_X12_212 (ci := 12) (q0 := 0) rfl rfl (by decide) (Nat.le_of_ble_eq_true rfl) rfl dX12_tellRule_95 (x_perm [1, 0] rfl (w_m_tellRule_j98 C E h))))
  · have h := ite_t h c
    obtain ⟨S73, e73, h⟩ := calV_some h
    exact x_aload_n C dX12_tellRule_71 rfl 1 rfl (x_iconst C dX12_tellRule_72 kc_1 (x_callVv C (c_m_fail e73) k_X12_212 (ci := 12) (q0 := 0) rfl rfl (by decide) (Nat.le_of_ble_eq_true rfl) rfl dX12_tellRule_73 (x_goto C (tgt := 98) dX12_tellRule_76 (by decide) (x_perm [1, 0] rfl (w_m_tellRule_j98 C E h)))))
set_option maxHeartbeats 4000000 in
theorem w_m_tellRule_j64 {z : ZT} {ad : AD} {ek : EK} {lh : Launch} {Dh : va_G} {S' : ST} (C : CX z ad ek cX12_tellRule RX12 lh Dh 6 6) (E : EV z (cM ad) cX12_tellRule S') {S : ST} (h : m_tellRule_j64 S = some S') : XW z (cM ad) 64 [(0, .ref (ad.1 0))] [] S := by
  unfold m_tellRule_j64 at h
  exact x_iconst C dX12_tellRule_64 kc_m1 (w_m_tellRule_j65 C E h)
set_option maxHeartbeats 4000000 in
theorem c_m_tellRule {ad : AD} {ek : EK} {lh : Launch} {Dh : va_G} {S' : ST}  {S : ST} (h : m_tellRule S = some S') : MXv lh Dh ad ek (cM ad) yX12_tellRule cX12_tellRule 6 none 6 [.ref (ad.1 0)] S S' := by
  refine mxv_of (by decide) (Nat.le_of_ble_eq_true rfl) (fun z C E => ?_)
  unfold m_tellRule at h
  obtain ⟨g8, h⟩ := G_some h
  obtain ⟨r13, S13, e13, h⟩ := cal_some h
  refine x_aload_n C dX12_tellRule_0 rfl 0 rfl (gM_X12_5 C u_5_85 dX12_tellRule_1 (x_aload_n C dX12_tellRule_4 rfl 0 rfl (gM_X12_11 C u_5_91 dX12_tellRule_5 (aM_3 C g8 dX12_tellRule_8 (x_istore_n C dX12_tellRule_9 rfl (by decide) rfl (x_aload_n C dX12_tellRule_10 rfl 1 rfl (x_bipush C dX12_tellRule_11 kb_28 (x_callVi C (c_m_is e13) k_X12_215 (ci := 12) (q0 := 0) rfl rfl (by decide) (Nat.le_of_ble_eq_true rfl) rfl dX12_tellRule_13 (x_if_eq C (tgt := 23) dX12_tellRule_16 (by decide) (fun c => ?_) (fun c => ?_))))))))))
  · have h := ite_t h c
    obtain ⟨r26, S26, e26, h⟩ := cal_some h
    refine x_aload_n C dX12_tellRule_23 rfl 1 rfl (x_bipush C dX12_tellRule_24 kb_21 (x_callVi C (c_m_is e26) k_X12_215 (ci := 12) (q0 := 0) rfl rfl (by decide) (Nat.le_of_ble_eq_true rfl) rfl dX12_tellRule_26 (x_if_eq C (tgt := 36) dX12_tellRule_29 (by decide) (fun c => ?_) (fun c => ?_))))
    · have h := ite_t h c
      refine x_aload_n C dX12_tellRule_36 rfl 1 rfl (gM_X12_13 C u_5_93 dX12_tellRule_37 (x_if_ne C (tgt := 64) dX12_tellRule_40 (by decide) (fun c => ?_) (fun c => ?_)))
      · have h := ite_f h c
        exact x_perm [1] rfl (w_m_tellRule_j64 C E h)
      · have h := ite_t h c
        refine x_iload_n C dX12_tellRule_43 rfl 0 rfl (x_bipush C dX12_tellRule_44 kb_24 (x_icmp_lt C (tgt := 64) dX12_tellRule_46 (by decide) (fun c => ?_) (fun c => ?_)))
        · have h := ite_t h c
          exact x_perm [1] rfl (w_m_tellRule_j64 C E h)
        · have h := ite_f h c
          refine x_iload_n C dX12_tellRule_49 rfl 0 rfl (x_bipush C dX12_tellRule_50 kb_27 (x_icmp_gt C (tgt := 64) dX12_tellRule_52 (by decide) (fun c => ?_) (fun c => ?_)))
          · have h := ite_t h c
            exact x_perm [1] rfl (w_m_tellRule_j64 C E h)
          · have h := ite_f h c
            exact x_iload_n C dX12_tellRule_55 rfl 0 rfl (x_bipush C dX12_tellRule_56 kb_24 (x_isub C dX12_tellRule_58 (x_iconst C dX12_tellRule_59 kc_1 (x_iadd C dX12_tellRule_60 (x_goto C (tgt := 65) dX12_tellRule_61 (by decide) (x_perm [1] rfl (w_m_tellRule_j65 C E h)))))))
    · have h := ite_f h c
      exact x_iconst C dX12_tellRule_32 kc_0 (x_goto C (tgt := 65) dX12_tellRule_33 (by decide) (x_perm [1] rfl (w_m_tellRule_j65 C E h)))
  · have h := ite_f h c
    exact x_iconst C dX12_tellRule_19 kc_5 (x_goto C (tgt := 65) dX12_tellRule_20 (by decide) (x_perm [1] rfl (w_m_tellRule_j65 C E h)))
set_option maxHeartbeats 4000000 in
theorem w_m_court_j72 {z : ZT} {ad : AD} {ek : EK} {lh : Launch} {Dh : va_G} {r : Int32} {S' : ST} (C : CX z ad ek cX12_court RX12 lh Dh 7 5) (E : EI z (cM ad) cX12_court (some .int) r S') {S : ST} {l1 : Int32} {l3 : Int32} {s0 : Int32} {s1 : Int32} {s2 : Int32} {s3 : Int32} (h : m_court_j72 S l1 l3 s0 s1 s2 s3 = some (r, S')) : XW z (cM ad) 72 [(0, .ref (ad.1 0)), (1, .int l1), (3, .int l3)] [.int s0, .int s1, .int s2, .int s3, .ref (ad.1 0)] S := by
  unfold m_court_j72 at h
  obtain ⟨S72, e72, h⟩ := calV_some h
  refine x_callVv C (c_m_prints e72) k_X12_360 (ci := 12) (q0 := 0) rfl rfl (by decide) (Nat.le_of_ble_eq_true rfl) rfl dX12_court_72 (x_iload_n C dX12_court_75 rfl 2 rfl (x_iconst C dX12_court_76 kc_1 (x_icmp_eq C (tgt := 96) dX12_court_77 (by decide) (fun c => ?_) (fun c => ?_))))
  · have h := ite_t h c
    obtain ⟨g102, h⟩ := G_some h
    obtain ⟨g108, h⟩ := G_some h
    obtain ⟨S109, e109, h⟩ := calV_some h
    obtain ⟨r114, S114, e114, h⟩ := cal_some h
    refine x_aload_n C dX12_court_96 rfl 0 rfl (x_aload_n C dX12_court_97 rfl 0 rfl (gM_X12_48 C u_5_128 dX12_court_98 (x_iload_n C dX12_court_101 rfl 1 rfl (aM_30 C g102 dX12_court_102 (x_aload_n C dX12_court_103 rfl 0 rfl (gM_X12_47 C u_5_127 dX12_court_104 (x_iload_n C dX12_court_107 rfl 1 rfl (aM_29 C g108 dX12_court_108 (x_callVv C (c_m_later e109) k_X12_354 (ci := 12) (q0 := 0) rfl rfl (by decide) (Nat.le_of_ble_eq_true rfl) rfl dX12_court_109 (x_aload_n C dX12_court_112 rfl 0 rfl (x_iconst C dX12_court_113 kc_4 (x_callVi C (c_m_first e114) k_X12_339 (ci := 12) (q0 := 0) rfl rfl (by decide) (Nat.le_of_ble_eq_true rfl) rfl dX12_court_114 (x_istore C dX12_court_117 (by decide) rfl (x_iload C dX12_court_119 0 rfl (x_iconst C dX12_court_121 kc_m1 (x_icmp_ne C (tgt := 130) dX12_court_122 (by decide) (fun c => ?_) (fun c => ?_)))))))))))))))))
    · have h := ite_f h c
      exact x_iload C dX12_court_130 0 rfl (x_iret E h retI dX12_court_132)
    · have h := ite_t h c
      exact x_bipush C dX12_court_125 kb_m2 (x_goto C (tgt := 132) dX12_court_127 (by decide) (x_iret E h retI dX12_court_132))
  · have h := ite_f h c
    refine x_aload_n C dX12_court_80 rfl 0 rfl (gM_X12_57 C u_5_137 dX12_court_81 (x_if_eq C (tgt := 91) dX12_court_84 (by decide) (fun c => ?_) (fun c => ?_)))
    · have h := ite_t h c
      exact x_aload_n C dX12_court_91 rfl 0 rfl (gM_X12_54 C u_5_134 dX12_court_92 (x_iret E h retI dX12_court_95))
    · have h := ite_f h c
      exact x_iconst C dX12_court_87 kc_0 (x_goto C (tgt := 95) dX12_court_88 (by decide) (x_iret E h retI dX12_court_95))
set_option maxHeartbeats 4000000 in
theorem w_m_court_j62 {z : ZT} {ad : AD} {ek : EK} {lh : Launch} {Dh : va_G} {r : Int32} {S' : ST} (C : CX z ad ek cX12_court RX12 lh Dh 7 5) (E : EI z (cM ad) cX12_court (some .int) r S') {S : ST} {l1 : Int32} {l2 : Int32} {l3 : Int32} {s0 : Int32} {s1 : Int32} {s2 : Int32} (h : m_court_j62 S l1 l2 l3 s0 s1 s2 = some (r, S')) : XW z (cM ad) 62 [(0, .ref (ad.1 0)), (1, .int l1), (2, .int l2), (3, .int l3)] [.int s0, .int s1, .int s2, .ref (ad.1 0)] S := by
  unfold m_court_j62 at h
  refine x_iload_n C dX12_court_62 rfl 3 rfl (x_iconst C dX12_court_63 kc_2 (x_icmp_ne C (tgt := 71) dX12_court_64 (by decide) (fun c => ?_) (fun c => ?_)))
  · have h := ite_f h c
    exact x_iload_n C dX12_court_71 rfl 1 rfl (x_perm [0, 1, 3] rfl (w_m_court_j72 C E h))
  · have h := ite_t h c
    exact x_iload_n C dX12_court_67 rfl 2 rfl (x_goto C (tgt := 72) dX12_court_68 (by decide) (x_perm [0, 1, 3] rfl (w_m_court_j72 C E h)))
set_option maxHeartbeats 4000000 in
theorem c_m_court {ad : AD} {ek : EK} {lh : Launch} {Dh : va_G} {r : Int32} {S' : ST}  {S : ST} {l1 : Int32} {l2 : Int32} {l3 : Int32} (h : m_court S l1 l2 l3 = some (r, S')) : MXi lh Dh ad ek (cM ad) yX12_court cX12_court 5 (some .int) 7 [.ref (ad.1 0), .int l1, .int l2, .int l3] S r S' := by
  refine mxi_of (by decide) (Nat.le_of_ble_eq_true rfl) (fun z C E => ?_)
  unfold m_court at h
  obtain ⟨r2, S2, e2, h⟩ := cal_some h
  refine x_aload_n C dX12_court_0 rfl 0 rfl (x_iload_n C dX12_court_1 rfl 2 rfl (x_callVi C (c_m_isKnown e2) k_X12_325 (ci := 12) (q0 := 0) rfl rfl (by decide) (Nat.le_of_ble_eq_true rfl) rfl dX12_court_2 (x_if_eq C (tgt := 37) dX12_court_5 (by decide) (fun c => ?_) (fun c => ?_))))
  · have h := ite_t h c
    exact x_iconst C dX12_court_37 kc_m1 (x_iret E h retI dX12_court_38)
  · have h := ite_f h c
    refine x_iload_n C dX12_court_8 rfl 1 rfl (x_if_lt C (tgt := 37) dX12_court_9 (by decide) (fun c => ?_) (fun c => ?_))
    · have h := ite_t h c
      exact x_iconst C dX12_court_37 kc_m1 (x_iret E h retI dX12_court_38)
    · have h := ite_f h c
      refine x_iload_n C dX12_court_12 rfl 1 rfl (x_iload_n C dX12_court_13 rfl 2 rfl (x_icmp_ge C (tgt := 37) dX12_court_14 (by decide) (fun c => ?_) (fun c => ?_)))
      · have h := ite_t h c
        exact x_iconst C dX12_court_37 kc_m1 (x_iret E h retI dX12_court_38)
      · have h := ite_f h c
        obtain ⟨g22, h⟩ := G_some h
        refine x_aload_n C dX12_court_17 rfl 0 rfl (gM_X12_46 C u_5_126 dX12_court_18 (x_iload_n C dX12_court_21 rfl 1 rfl (aM_28 C g22 dX12_court_22 (x_bipush C dX12_court_23 kb_7 (x_icmp_ne C (tgt := 37) dX12_court_25 (by decide) (fun c => ?_) (fun c => ?_))))))
        · have h := ite_f h c
          exact x_iconst C dX12_court_37 kc_m1 (x_iret E h retI dX12_court_38)
        · have h := ite_t h c
          obtain ⟨r31, e31, h⟩ := cal0_some h
          refine x_iload_n C dX12_court_28 rfl 3 rfl (x_iconst C dX12_court_29 kc_0 (x_iconst C dX12_court_30 kc_2 (x_callSi C (c_m_in e31) k_X12_288 (by decide) (Nat.le_of_ble_eq_true rfl) rfl dX12_court_31 (x_if_ne C (tgt := 39) dX12_court_34 (by decide) (fun c => ?_) (fun c => ?_)))))
          · have h := ite_f h c
            obtain ⟨g45, h⟩ := G_some h
            obtain ⟨g51, h⟩ := G_some h
            refine x_aload_n C dX12_court_39 rfl 0 rfl (x_aload_n C dX12_court_40 rfl 0 rfl (gM_X12_48 C u_5_128 dX12_court_41 (x_iload_n C dX12_court_44 rfl 1 rfl (aM_30 C g45 dX12_court_45 (x_aload_n C dX12_court_46 rfl 0 rfl (gM_X12_47 C u_5_127 dX12_court_47 (x_iload_n C dX12_court_50 rfl 1 rfl (aM_29 C g51 dX12_court_51 (x_iload_n C dX12_court_52 rfl 3 rfl (x_iconst C dX12_court_53 kc_2 (x_icmp_ne C (tgt := 61) dX12_court_54 (by decide) (fun c => ?_) (fun c => ?_))))))))))))
            · have h := ite_f h c
              exact x_iload_n C dX12_court_61 rfl 1 rfl (w_m_court_j62 C E h)
            · have h := ite_t h c
              exact x_iload_n C dX12_court_57 rfl 2 rfl (x_goto C (tgt := 62) dX12_court_58 (by decide) (w_m_court_j62 C E h))
          · have h := ite_t h c
            exact x_iconst C dX12_court_37 kc_m1 (x_iret E h retI dX12_court_38)
set_option maxHeartbeats 4000000 in
theorem c_m_mendOf {ad : AD} {ek : EK} {lh : Launch} {Dh : va_G} {r : Int32} {S' : ST}  {S : ST} {l1 : Int32} {l2 : Int32} (h : m_mendOf S l1 l2 = some (r, S')) : MXi lh Dh ad ek (cM ad) yX12_mendOf cX12_mendOf 3 (some .int) 7 [.ref (ad.1 0), .int l1, .int l2] S r S' := by
  refine mxi_of (by decide) (Nat.le_of_ble_eq_true rfl) (fun z C E => ?_)
  unfold m_mendOf at h
  obtain ⟨g6, h⟩ := G_some h
  obtain ⟨g12, h⟩ := G_some h
  obtain ⟨S15, e15, h⟩ := calV_some h
  obtain ⟨r21, S21, e21, h⟩ := cal_some h
  exact x_aload_n C dX12_mendOf_0 rfl 0 rfl (x_aload_n C dX12_mendOf_1 rfl 0 rfl (gM_X12_48 C u_5_128 dX12_mendOf_2 (x_iload_n C dX12_mendOf_5 rfl 1 rfl (aM_30 C g6 dX12_mendOf_6 (x_aload_n C dX12_mendOf_7 rfl 0 rfl (gM_X12_47 C u_5_127 dX12_mendOf_8 (x_iload_n C dX12_mendOf_11 rfl 1 rfl (aM_29 C g12 dX12_mendOf_12 (x_iload_n C dX12_mendOf_13 rfl 2 rfl (x_iload_n C dX12_mendOf_14 rfl 1 rfl (x_callVv C (c_m_prints e15) k_X12_360 (ci := 12) (q0 := 0) rfl rfl (by decide) (Nat.le_of_ble_eq_true rfl) rfl dX12_mendOf_15 (x_aload_n C dX12_mendOf_18 rfl 0 rfl (x_iload_n C dX12_mendOf_19 rfl 1 rfl (x_iload_n C dX12_mendOf_20 rfl 2 rfl (x_callVi C (c_m_fateOf e21) k_X12_348 (ci := 12) (q0 := 0) rfl rfl (by decide) (Nat.le_of_ble_eq_true rfl) rfl dX12_mendOf_21 (x_iret E h retI dX12_mendOf_24))))))))))))))))
set_option maxHeartbeats 4000000 in
theorem w_m_namesOf_j128 {z : ZT} {ad : AD} {ek : EK} {lh : Launch} {Dh : va_G} {r : Int32} {S' : ST} (C : CX z ad ek cX12_namesOf RX12 lh Dh 7 8) (E : EI z (cM ad) cX12_namesOf (some .int) r S') {Kb : ST → Int32 → Int32 → Int32 → Int32 → Int32 → Option (Int32 × ST)} (hKb : ∀ (S : ST) (l2 : Int32) (l3 : Int32) (l4 : Int32) (l5 : Int32) (l6 : Int32) , Kb S l2 l3 l4 l5 l6 = some (r, S') → XW z (cM ad) 18 [(0, .ref (ad.1 0)), (2, .int l2), (3, .int l3), (4, .int l4), (5, .int l5), (6, .int l6)] [] S) {S : ST} {l2 : Int32} {l3 : Int32} {l4 : Int32} {l5 : Int32} {l6 : Int32} (h : m_namesOf_j128 Kb S l2 l3 l4 l5 l6 = some (r, S')) : XW z (cM ad) 128 [(0, .ref (ad.1 0)), (2, .int l2), (3, .int l3), (4, .int l4), (5, .int l5), (6, .int l6)] [] S := by
  unfold m_namesOf_j128 at h
  exact x_iinc C dX12_namesOf_128 5 rfl ki_1 (by decide) rfl (x_goto C (tgt := 18) dX12_namesOf_131 (by decide) (x_perm [1, 2, 3, 4, 5, 0] rfl (hKb _ _ _ _ _ _ h)))
set_option maxHeartbeats 4000000 in
theorem w_m_namesOf_j122 {z : ZT} {ad : AD} {ek : EK} {lh : Launch} {Dh : va_G} {r : Int32} {S' : ST} (C : CX z ad ek cX12_namesOf RX12 lh Dh 7 8) (E : EI z (cM ad) cX12_namesOf (some .int) r S') {Kb : ST → Int32 → Int32 → Int32 → Int32 → Int32 → Int32 → Option (Int32 × ST)} (hKb : ∀ (S : ST) (l2 : Int32) (l3 : Int32) (l4 : Int32) (l5 : Int32) (l6 : Int32) (l7 : Int32) , Kb S l2 l3 l4 l5 l6 l7 = some (r, S') → XW z (cM ad) 34 [(0, .ref (ad.1 0)), (2, .int l2), (3, .int l3), (4, .int l4), (5, .int l5), (6, .int l6), (7, .int l7)] [] S) {K128 : ST → Int32 → Int32 → Int32 → Int32 → Int32 → Option (Int32 × ST)} (hK128 : ∀ (S : ST) (l2 : Int32) (l3 : Int32) (l4 : Int32) (l5 : Int32) (l6 : Int32) , K128 S l2 l3 l4 l5 l6 = some (r, S') → XW z (cM ad) 128 [(0, .ref (ad.1 0)), (2, .int l2), (3, .int l3), (4, .int l4), (5, .int l5), (6, .int l6)] [] S) {S : ST} {l2 : Int32} {l3 : Int32} {l4 : Int32} {l5 : Int32} {l6 : Int32} {l7 : Int32} (h : m_namesOf_j122 Kb K128 S l2 l3 l4 l5 l6 l7 = some (r, S')) : XW z (cM ad) 122 [(0, .ref (ad.1 0)), (2, .int l2), (3, .int l3), (4, .int l4), (5, .int l5), (6, .int l6), (7, .int l7)] [] S := by
  unfold m_namesOf_j122 at h
  exact x_iinc C dX12_namesOf_122 6 rfl ki_1 (by decide) rfl (x_goto C (tgt := 34) dX12_namesOf_125 (by decide) (x_perm [1, 2, 3, 4, 5, 6, 0] rfl (hKb _ _ _ _ _ _ _ h)))
set_option maxHeartbeats 4000000 in
theorem w_m_namesOf_j112 {z : ZT} {ad : AD} {ek : EK} {lh : Launch} {Dh : va_G} {r : Int32} {S' : ST} (C : CX z ad ek cX12_namesOf RX12 lh Dh 7 8) (E : EI z (cM ad) cX12_namesOf (some .int) r S') {Kb : ST → Int32 → Int32 → Int32 → Int32 → Int32 → Int32 → Option (Int32 × ST)} (hKb : ∀ (S : ST) (l2 : Int32) (l3 : Int32) (l4 : Int32) (l5 : Int32) (l6 : Int32) (l7 : Int32) , Kb S l2 l3 l4 l5 l6 l7 = some (r, S') → XW z (cM ad) 34 [(0, .ref (ad.1 0)), (2, .int l2), (3, .int l3), (4, .int l4), (5, .int l5), (6, .int l6), (7, .int l7)] [] S) {K128 : ST → Int32 → Int32 → Int32 → Int32 → Int32 → Option (Int32 × ST)} (hK128 : ∀ (S : ST) (l2 : Int32) (l3 : Int32) (l4 : Int32) (l5 : Int32) (l6 : Int32) , K128 S l2 l3 l4 l5 l6 = some (r, S') → XW z (cM ad) 128 [(0, .ref (ad.1 0)), (2, .int l2), (3, .int l3), (4, .int l4), (5, .int l5), (6, .int l6)] [] S) {S : ST} {l2 : Int32} {l3 : Int32} {l4 : Int32} {l5 : Int32} {l6 : Int32} {l7 : Int32} (h : m_namesOf_j112 Kb K128 S l2 l3 l4 l5 l6 l7 = some (r, S')) : XW z (cM ad) 112 [(0, .ref (ad.1 0)), (2, .int l2), (3, .int l3), (4, .int l4), (5, .int l5), (6, .int l6), (7, .int l7)] [] S := by
  unfold m_namesOf_j112 at h
  exact x_aload_n C dX12_namesOf_112 rfl 0 rfl (x_dup C dX12_namesOf_113 rfl (gM_X12_61 C u_5_141 dX12_namesOf_114 (x_iconst C dX12_namesOf_117 kc_1 (x_iadd C dX12_namesOf_118 (pM_X12_61 C u_5_141 dX12_namesOf_119 (w_m_namesOf_j122 C E hKb hK128 h))))))
set_option maxHeartbeats 4000000 in
theorem w_m_namesOf_h34 {z : ZT} {ad : AD} {ek : EK} {lh : Launch} {Dh : va_G} {r : Int32} {S' : ST} (C : CX z ad ek cX12_namesOf RX12 lh Dh 7 8) (E : EI z (cM ad) cX12_namesOf (some .int) r S') {K128 : ST → Int32 → Int32 → Int32 → Int32 → Int32 → Option (Int32 × ST)} (hK128 : ∀ (S : ST) (l2 : Int32) (l3 : Int32) (l4 : Int32) (l5 : Int32) (l6 : Int32) , K128 S l2 l3 l4 l5 l6 = some (r, S') → XW z (cM ad) 128 [(0, .ref (ad.1 0)), (2, .int l2), (3, .int l3), (4, .int l4), (5, .int l5), (6, .int l6)] [] S) : ∀ (n : Nat) (S : ST) (l2 : Int32) (l3 : Int32) (l4 : Int32) (l5 : Int32) (l6 : Int32) (l7 : Int32), m_namesOf_h34 K128 n S l2 l3 l4 l5 l6 l7 = some (r, S') → XW z (cM ad) 34 [(0, .ref (ad.1 0)), (2, .int l2), (3, .int l3), (4, .int l4), (5, .int l5), (6, .int l6), (7, .int l7)] [] S := by
  intro n
  induction n with
  | zero => intro S l2 l3 l4 l5 l6 l7 h; cases h
  | succ n ih =>
    intro S l2 l3 l4 l5 l6 l7 h
    have hKb := ih
    refine x_iload C dX12_namesOf_34 6 rfl (x_aload_n C dX12_namesOf_36 rfl 0 rfl (gM_X12_60 C u_5_140 dX12_namesOf_37 (x_icmp_ge C (tgt := 128) dX12_namesOf_40 (by decide) (fun c => ?_) (fun c => ?_))))
    · have h := ite_t h c
      exact x_perm [0, 1, 2, 3, 4, 5] rfl (hK128 _ _ _ _ _ _ h)
    · have h := ite_f h c
      obtain ⟨g50, h⟩ := G_some h
      obtain ⟨S54, e54, h⟩ := calV_some h
      refine x_aload_n C dX12_namesOf_43 rfl 0 rfl (x_aload_n C dX12_namesOf_44 rfl 0 rfl (gM_X12_59 C u_5_139 dX12_namesOf_45 (x_iload C dX12_namesOf_48 6 rfl (aM_36 C g50 dX12_namesOf_50 (x_iload_n C dX12_namesOf_51 rfl 1 rfl (x_iload_n C dX12_namesOf_52 rfl 2 rfl (x_iload_n C dX12_namesOf_53 rfl 2 rfl (x_callVv C (c_m_prints e54) k_X12_360 (ci := 12) (q0 := 0) rfl rfl (by decide) (Nat.le_of_ble_eq_true rfl) rfl dX12_namesOf_54 (x_aload_n C dX12_namesOf_57 rfl 0 rfl (gM_X12_58 C u_5_138 dX12_namesOf_58 (x_iconst C dX12_namesOf_61 kc_m1 (x_icmp_ne C (tgt := 122) dX12_namesOf_62 (by decide) (fun c => ?_) (fun c => ?_)))))))))))))
      · have h := ite_f h c
        exact w_m_namesOf_j122 C E hKb hK128 h
      · have h := ite_t h c
        refine x_aload_n C dX12_namesOf_65 rfl 0 rfl (gM_X12_57 C u_5_137 dX12_namesOf_66 (x_if_ne C (tgt := 122) dX12_namesOf_69 (by decide) (fun c => ?_) (fun c => ?_)))
        · have h := ite_f h c
          exact w_m_namesOf_j122 C E hKb hK128 h
        · have h := ite_t h c
          refine x_aload_n C dX12_namesOf_72 rfl 0 rfl (gM_X12_54 C u_5_134 dX12_namesOf_73 (x_if_eq C (tgt := 122) dX12_namesOf_76 (by decide) (fun c => ?_) (fun c => ?_)))
          · have h := ite_t h c
            exact w_m_namesOf_j122 C E hKb hK128 h
          · have h := ite_f h c
            obtain ⟨g87, h⟩ := G_some h
            refine x_aload_n C dX12_namesOf_79 rfl 0 rfl (gM_X12_70 C u_5_150 dX12_namesOf_80 (x_aload_n C dX12_namesOf_83 rfl 0 rfl (gM_X12_54 C u_5_134 dX12_namesOf_84 (aM_44 C g87 dX12_namesOf_87 (x_if_ne C (tgt := 94) dX12_namesOf_88 (by decide) (fun c => ?_) (fun c => ?_))))))
            · have h := ite_f h c
              refine x_aload_n C dX12_namesOf_94 rfl 0 rfl (gM_X12_61 C u_5_141 dX12_namesOf_95 (x_iload C dX12_namesOf_98 3 rfl (x_icmp_ne C (tgt := 112) dX12_namesOf_100 (by decide) (fun c => ?_) (fun c => ?_))))
              · have h := ite_f h c
                exact w_m_namesOf_j112 C E hKb hK128 h
              · have h := ite_t h c
                obtain ⟨g109, h⟩ := G_some h
                exact x_aload_n C dX12_namesOf_103 rfl 0 rfl (gM_X12_59 C u_5_139 dX12_namesOf_104 (x_iload C dX12_namesOf_107 6 rfl (aM_36 C g109 dX12_namesOf_109 (x_istore C dX12_namesOf_110 (by decide) rfl (x_perm [1, 2, 3, 4, 0, 5, 6] rfl (w_m_namesOf_j112 C E hKb hK128 h))))))
            · have h := ite_t h c
              exact x_goto C (tgt := 122) dX12_namesOf_91 (by decide) (w_m_namesOf_j122 C E hKb hK128 h)
set_option maxHeartbeats 4000000 in
theorem w_m_namesOf_h18 {z : ZT} {ad : AD} {ek : EK} {lh : Launch} {Dh : va_G} {r : Int32} {S' : ST} (C : CX z ad ek cX12_namesOf RX12 lh Dh 7 8) (E : EI z (cM ad) cX12_namesOf (some .int) r S') : ∀ (n : Nat) (S : ST) (l2 : Int32) (l3 : Int32) (l4 : Int32) (l5 : Int32) (l6 : Int32), m_namesOf_h18 n S l2 l3 l4 l5 l6 = some (r, S') → XW z (cM ad) 18 [(0, .ref (ad.1 0)), (2, .int l2), (3, .int l3), (4, .int l4), (5, .int l5), (6, .int l6)] [] S := by
  intro n
  induction n with
  | zero => intro S l2 l3 l4 l5 l6 h; cases h
  | succ n ih =>
    intro S l2 l3 l4 l5 l6 h
    have hKb := ih
    refine x_iload C dX12_namesOf_18 5 rfl (x_iload_n C dX12_namesOf_20 rfl 1 rfl (x_icmp_gt C (tgt := 134) dX12_namesOf_21 (by decide) (fun c => ?_) (fun c => ?_)))
    · have h := ite_t h c
      exact (by
        exact x_iload C dX12_namesOf_134 4 rfl (x_iret E h retI dX12_namesOf_136))
    · have h := ite_f h c
      obtain ⟨S28, e28, h⟩ := calV_some h
      exact x_aload_n C dX12_namesOf_24 rfl 0 rfl (x_iload C dX12_namesOf_25 5 rfl (x_iload_n C dX12_namesOf_27 rfl 2 rfl (x_callVv C (c_m_stands e28) k_X12_373 (ci := 12) (q0 := 0) rfl rfl (by decide) (Nat.le_of_ble_eq_true rfl) rfl dX12_namesOf_28 (x_iconst C dX12_namesOf_31 kc_0 (x_istore C dX12_namesOf_32 (by decide) rfl (x_perm [1, 2, 3, 4, 5, 6, 0] rfl (w_m_namesOf_h34 C E (fun _ _ _ _ _ _ h => w_m_namesOf_j128 C E hKb h) FU _ _ _ _ _ _ _ h)))))))
set_option maxHeartbeats 4000000 in
theorem c_m_namesOf {ad : AD} {ek : EK} {lh : Launch} {Dh : va_G} {r : Int32} {S' : ST}  {S : ST} {l1 : Int32} {l2 : Int32} {l3 : Int32} {l4 : Int32} (h : m_namesOf S l1 l2 l3 l4 = some (r, S')) : MXi lh Dh ad ek (cM ad) yX12_namesOf cX12_namesOf 8 (some .int) 7 [.ref (ad.1 0), .int l1, .int l2, .int l3, .int l4] S r S' := by
  refine mxi_of (by decide) (Nat.le_of_ble_eq_true rfl) (fun z C E => ?_)
  unfold m_namesOf at h
  obtain ⟨S4, e4, h⟩ := calV_some h
  exact x_aload_n C dX12_namesOf_0 rfl 0 rfl (x_iload_n C dX12_namesOf_1 rfl 1 rfl (x_iload_n C dX12_namesOf_2 rfl 2 rfl (x_iload_n C dX12_namesOf_3 rfl 3 rfl (x_callVv C (c_m_sames e4) k_X12_409 (ci := 12) (q0 := 0) rfl rfl (by decide) (Nat.le_of_ble_eq_true rfl) rfl dX12_namesOf_4 (x_iconst C dX12_namesOf_7 kc_m1 (x_istore C dX12_namesOf_8 (by decide) rfl (x_aload_n C dX12_namesOf_10 rfl 1 rfl (x_iconst C dX12_namesOf_11 kc_0 (pM_X12_61 C u_5_141 dX12_namesOf_12 (x_iconst C dX12_namesOf_15 kc_0 (x_istore C dX12_namesOf_16 (by decide) rfl (x_perm [2, 4, 5, 6, 1, 0] rfl (w_m_namesOf_h18 C E FU _ _ _ _ _ _ h)))))))))))))
set_option maxHeartbeats 4000000 in
theorem w_m_printAt_j79 {z : ZT} {ad : AD} {ek : EK} {lh : Launch} {Dh : va_G} {r : Int32} {S' : ST} (C : CX z ad ek cX12_printAt RX12 lh Dh 7 7) (E : EI z (cM ad) cX12_printAt (some .int) r S') {Kb : ST → Int32 → Int32 → Int32 → Int32 → Int32 → Option (Int32 × ST)} (hKb : ∀ (S : ST) (l2 : Int32) (l3 : Int32) (l4 : Int32) (l5 : Int32) (l6 : Int32) , Kb S l2 l3 l4 l5 l6 = some (r, S') → XW z (cM ad) 17 [(0, .ref (ad.1 0)), (2, .int l2), (3, .int l3), (4, .int l4), (5, .int l5), (6, .int l6)] [] S) {S : ST} {l2 : Int32} {l3 : Int32} {l4 : Int32} {l5 : Int32} {l6 : Int32} (h : m_printAt_j79 Kb S l2 l3 l4 l5 l6 = some (r, S')) : XW z (cM ad) 79 [(0, .ref (ad.1 0)), (2, .int l2), (3, .int l3), (4, .int l4), (5, .int l5), (6, .int l6)] [] S := by
  unfold m_printAt_j79 at h
  exact x_iinc C dX12_printAt_79 5 rfl ki_1 (by decide) rfl (x_goto C (tgt := 17) dX12_printAt_82 (by decide) (x_perm [1, 2, 3, 4, 5, 0] rfl (hKb _ _ _ _ _ _ h)))
set_option maxHeartbeats 4000000 in
theorem w_m_printAt_j69 {z : ZT} {ad : AD} {ek : EK} {lh : Launch} {Dh : va_G} {r : Int32} {S' : ST} (C : CX z ad ek cX12_printAt RX12 lh Dh 7 7) (E : EI z (cM ad) cX12_printAt (some .int) r S') {Kb : ST → Int32 → Int32 → Int32 → Int32 → Int32 → Option (Int32 × ST)} (hKb : ∀ (S : ST) (l2 : Int32) (l3 : Int32) (l4 : Int32) (l5 : Int32) (l6 : Int32) , Kb S l2 l3 l4 l5 l6 = some (r, S') → XW z (cM ad) 17 [(0, .ref (ad.1 0)), (2, .int l2), (3, .int l3), (4, .int l4), (5, .int l5), (6, .int l6)] [] S) {S : ST} {l2 : Int32} {l3 : Int32} {l4 : Int32} {l5 : Int32} {l6 : Int32} (h : m_printAt_j69 Kb S l2 l3 l4 l5 l6 = some (r, S')) : XW z (cM ad) 69 [(0, .ref (ad.1 0)), (2, .int l2), (3, .int l3), (4, .int l4), (5, .int l5), (6, .int l6)] [] S := by
  unfold m_printAt_j69 at h
  exact x_aload_n C dX12_printAt_69 rfl 0 rfl (x_dup C dX12_printAt_70 rfl (gM_X12_61 C u_5_141 dX12_printAt_71 (x_iconst C dX12_printAt_74 kc_1 (x_iadd C dX12_printAt_75 (pM_X12_61 C u_5_141 dX12_printAt_76 (w_m_printAt_j79 C E hKb h))))))
set_option maxHeartbeats 4000000 in
theorem w_m_printAt_h17 {z : ZT} {ad : AD} {ek : EK} {lh : Launch} {Dh : va_G} {r : Int32} {S' : ST} (C : CX z ad ek cX12_printAt RX12 lh Dh 7 7) (E : EI z (cM ad) cX12_printAt (some .int) r S') : ∀ (n : Nat) (S : ST) (l2 : Int32) (l3 : Int32) (l4 : Int32) (l5 : Int32) (l6 : Int32), m_printAt_h17 n S l2 l3 l4 l5 l6 = some (r, S') → XW z (cM ad) 17 [(0, .ref (ad.1 0)), (2, .int l2), (3, .int l3), (4, .int l4), (5, .int l5), (6, .int l6)] [] S := by
  intro n
  induction n with
  | zero => intro S l2 l3 l4 l5 l6 h; cases h
  | succ n ih =>
    intro S l2 l3 l4 l5 l6 h
    have hKb := ih
    refine x_iload C dX12_printAt_17 5 rfl (x_aload_n C dX12_printAt_19 rfl 0 rfl (gM_X12_60 C u_5_140 dX12_printAt_20 (x_icmp_ge C (tgt := 85) dX12_printAt_23 (by decide) (fun c => ?_) (fun c => ?_))))
    · have h := ite_t h c
      exact (by
        exact x_iload C dX12_printAt_85 4 rfl (x_iret E h retI dX12_printAt_87))
    · have h := ite_f h c
      obtain ⟨g33, h⟩ := G_some h
      obtain ⟨S37, e37, h⟩ := calV_some h
      refine x_aload_n C dX12_printAt_26 rfl 0 rfl (x_aload_n C dX12_printAt_27 rfl 0 rfl (gM_X12_59 C u_5_139 dX12_printAt_28 (x_iload C dX12_printAt_31 5 rfl (aM_36 C g33 dX12_printAt_33 (x_iload_n C dX12_printAt_34 rfl 1 rfl (x_iload_n C dX12_printAt_35 rfl 2 rfl (x_iload_n C dX12_printAt_36 rfl 2 rfl (x_callVv C (c_m_prints e37) k_X12_360 (ci := 12) (q0 := 0) rfl rfl (by decide) (Nat.le_of_ble_eq_true rfl) rfl dX12_printAt_37 (x_aload_n C dX12_printAt_40 rfl 0 rfl (gM_X12_58 C u_5_138 dX12_printAt_41 (x_iconst C dX12_printAt_44 kc_m1 (x_icmp_eq C (tgt := 51) dX12_printAt_45 (by decide) (fun c => ?_) (fun c => ?_)))))))))))))
      · have h := ite_t h c
        refine x_aload_n C dX12_printAt_51 rfl 0 rfl (gM_X12_61 C u_5_141 dX12_printAt_52 (x_iload C dX12_printAt_55 3 rfl (x_icmp_ne C (tgt := 69) dX12_printAt_57 (by decide) (fun c => ?_) (fun c => ?_))))
        · have h := ite_f h c
          exact w_m_printAt_j69 C E hKb h
        · have h := ite_t h c
          obtain ⟨g66, h⟩ := G_some h
          exact x_aload_n C dX12_printAt_60 rfl 0 rfl (gM_X12_59 C u_5_139 dX12_printAt_61 (x_iload C dX12_printAt_64 5 rfl (aM_36 C g66 dX12_printAt_66 (x_istore C dX12_printAt_67 (by decide) rfl (x_perm [1, 2, 3, 4, 0, 5] rfl (w_m_printAt_j69 C E hKb h))))))
      · have h := ite_f h c
        exact x_goto C (tgt := 79) dX12_printAt_48 (by decide) (w_m_printAt_j79 C E hKb h)
set_option maxHeartbeats 4000000 in
theorem c_m_printAt {ad : AD} {ek : EK} {lh : Launch} {Dh : va_G} {r : Int32} {S' : ST}  {S : ST} {l1 : Int32} {l2 : Int32} {l3 : Int32} {l4 : Int32} (h : m_printAt S l1 l2 l3 l4 = some (r, S')) : MXi lh Dh ad ek (cM ad) yX12_printAt cX12_printAt 7 (some .int) 7 [.ref (ad.1 0), .int l1, .int l2, .int l3, .int l4] S r S' := by
  refine mxi_of (by decide) (Nat.le_of_ble_eq_true rfl) (fun z C E => ?_)
  unfold m_printAt at h
  obtain ⟨S3, e3, h⟩ := calV_some h
  exact x_aload_n C dX12_printAt_0 rfl 0 rfl (x_iload_n C dX12_printAt_1 rfl 1 rfl (x_iload_n C dX12_printAt_2 rfl 3 rfl (x_callVv C (c_m_stands e3) k_X12_373 (ci := 12) (q0 := 0) rfl rfl (by decide) (Nat.le_of_ble_eq_true rfl) rfl dX12_printAt_3 (x_iconst C dX12_printAt_6 kc_m1 (x_istore C dX12_printAt_7 (by decide) rfl (x_aload_n C dX12_printAt_9 rfl 1 rfl (x_iconst C dX12_printAt_10 kc_0 (pM_X12_61 C u_5_141 dX12_printAt_11 (x_iconst C dX12_printAt_14 kc_0 (x_istore C dX12_printAt_15 (by decide) rfl (x_perm [2, 4, 5, 6, 1, 0] rfl (w_m_printAt_h17 C E FU _ _ _ _ _ _ h))))))))))))
set_option maxHeartbeats 4000000 in
theorem c_m_printed {ad : AD} {ek : EK} {lh : Launch} {Dh : va_G} {r : Int32} {S' : ST}  {S : ST} {l1 : Int32} {l2 : Int32} {l3 : Int32} {l4 : Int32} (h : m_printed S l1 l2 l3 l4 = some (r, S')) : MXi lh Dh ad ek (cM ad) yX12_printed cX12_printed 6 (some .int) 7 [.ref (ad.1 0), .int l1, .int l2, .int l3, .int l4] S r S' := by
  refine mxi_of (by decide) (Nat.le_of_ble_eq_true rfl) (fun z C E => ?_)
  unfold m_printed at h
  obtain ⟨r2, S2, e2, h⟩ := cal_some h
  refine x_aload_n C dX12_printed_0 rfl 0 rfl (x_iload_n C dX12_printed_1 rfl 3 rfl (x_callVi C (c_m_isKnown e2) k_X12_325 (ci := 12) (q0 := 0) rfl rfl (by decide) (Nat.le_of_ble_eq_true rfl) rfl dX12_printed_2 (x_if_eq C (tgt := 44) dX12_printed_5 (by decide) (fun c => ?_) (fun c => ?_))))
  · have h := ite_t h c
    exact x_iconst C dX12_printed_44 kc_m1 (x_iret E h retI dX12_printed_45)
  · have h := ite_f h c
    obtain ⟨r11, S11, e11, h⟩ := cal_some h
    refine x_aload_n C dX12_printed_8 rfl 0 rfl (x_iload_n C dX12_printed_9 rfl 1 rfl (x_iload_n C dX12_printed_10 rfl 3 rfl (x_callVi C (c_m_isLine e11) k_X12_317 (ci := 12) (q0 := 0) rfl rfl (by decide) (Nat.le_of_ble_eq_true rfl) rfl dX12_printed_11 (x_if_eq C (tgt := 44) dX12_printed_14 (by decide) (fun c => ?_) (fun c => ?_)))))
    · have h := ite_t h c
      exact x_iconst C dX12_printed_44 kc_m1 (x_iret E h retI dX12_printed_45)
    · have h := ite_f h c
      obtain ⟨r18, e18, h⟩ := cal0_some h
      refine x_iload_n C dX12_printed_17 rfl 2 rfl (x_callSi C (c_m_isDay e18) k_X12_292 (by decide) (Nat.le_of_ble_eq_true rfl) rfl dX12_printed_18 (x_if_eq C (tgt := 44) dX12_printed_21 (by decide) (fun c => ?_) (fun c => ?_)))
      · have h := ite_t h c
        exact x_iconst C dX12_printed_44 kc_m1 (x_iret E h retI dX12_printed_45)
      · have h := ite_f h c
        obtain ⟨g30, h⟩ := G_some h
        refine x_iload_n C dX12_printed_24 rfl 2 rfl (x_aload_n C dX12_printed_25 rfl 0 rfl (gM_X12_47 C u_5_127 dX12_printed_26 (x_iload_n C dX12_printed_29 rfl 1 rfl (aM_29 C g30 dX12_printed_30 (x_icmp_lt C (tgt := 44) dX12_printed_31 (by decide) (fun c => ?_) (fun c => ?_))))))
        · have h := ite_t h c
          exact x_iconst C dX12_printed_44 kc_m1 (x_iret E h retI dX12_printed_45)
        · have h := ite_f h c
          obtain ⟨r38, e38, h⟩ := cal0_some h
          refine x_iload C dX12_printed_34 4 rfl (x_iconst C dX12_printed_36 kc_0 (x_iconst C dX12_printed_37 kc_5 (x_callSi C (c_m_in e38) k_X12_288 (by decide) (Nat.le_of_ble_eq_true rfl) rfl dX12_printed_38 (x_if_ne C (tgt := 46) dX12_printed_41 (by decide) (fun c => ?_) (fun c => ?_)))))
          · have h := ite_f h c
            refine x_iload C dX12_printed_46 4 rfl (x_iconst C dX12_printed_48 kc_5 (x_icmp_ne C (tgt := 85) dX12_printed_49 (by decide) (fun c => ?_) (fun c => ?_)))
            · have h := ite_f h c
              obtain ⟨S90, e90, h⟩ := calV_some h
              refine x_aload_n C dX12_printed_85 rfl 0 rfl (x_iload_n C dX12_printed_86 rfl 1 rfl (x_iload_n C dX12_printed_87 rfl 2 rfl (x_iload_n C dX12_printed_88 rfl 3 rfl (x_iload_n C dX12_printed_89 rfl 3 rfl (x_callVv C (c_m_prints e90) k_X12_360 (ci := 12) (q0 := 0) rfl rfl (by decide) (Nat.le_of_ble_eq_true rfl) rfl dX12_printed_90 (x_iload C dX12_printed_93 4 rfl (?_)))))))
              refine x_case 0 (fun c0 => ?_) (fun c0 => ?_)
              · have h := ite_t h c0
                refine x_table C (tgt := 124) dX12_printed_95 (by decide) (by rw [c0]; decide) ?_
                exact x_aload_n C dX12_printed_124 rfl 0 rfl (gM_X12_54 C u_5_134 dX12_printed_125 (x_iret E h retI dX12_printed_128))
              · have h := ite_f h c0
                refine x_case 1 (fun c1 => ?_) (fun c1 => ?_)
                · have h := ite_t h c1
                  refine x_table C (tgt := 129) dX12_printed_95 (by decide) (by rw [c1]; decide) ?_
                  refine x_aload_n C dX12_printed_129 rfl 0 rfl (gM_X12_57 C u_5_137 dX12_printed_130 (x_if_eq C (tgt := 140) dX12_printed_133 (by decide) (fun c => ?_) (fun c => ?_)))
                  · have h := ite_t h c
                    exact x_iconst C dX12_printed_140 kc_0 (x_iret E h retI dX12_printed_141)
                  · have h := ite_f h c
                    exact x_iconst C dX12_printed_136 kc_1 (x_goto C (tgt := 141) dX12_printed_137 (by decide) (x_iret E h retI dX12_printed_141))
                · have h := ite_f h c1
                  refine x_case 2 (fun c2 => ?_) (fun c2 => ?_)
                  · have h := ite_t h c2
                    refine x_table C (tgt := 142) dX12_printed_95 (by decide) (by rw [c2]; decide) ?_
                    refine x_aload_n C dX12_printed_142 rfl 0 rfl (gM_X12_58 C u_5_138 dX12_printed_143 (x_iconst C dX12_printed_146 kc_m1 (x_icmp_ne C (tgt := 155) dX12_printed_147 (by decide) (fun c => ?_) (fun c => ?_))))
                    · have h := ite_f h c
                      exact x_aload_n C dX12_printed_155 rfl 0 rfl (gM_X12_58 C u_5_138 dX12_printed_156 (x_iret E h retI dX12_printed_159))
                    · have h := ite_t h c
                      exact x_bipush C dX12_printed_150 kb_m2 (x_goto C (tgt := 159) dX12_printed_152 (by decide) (x_iret E h retI dX12_printed_159))
                  · have h := ite_f h c2
                    refine x_case 3 (fun c3 => ?_) (fun c3 => ?_)
                    · have h := ite_t h c3
                      refine x_table C (tgt := 160) dX12_printed_95 (by decide) (by rw [c3]; decide) ?_
                      refine x_aload_n C dX12_printed_160 rfl 0 rfl (gM_X12_56 C u_5_136 dX12_printed_161 (x_iconst C dX12_printed_164 kc_m1 (x_icmp_ne C (tgt := 173) dX12_printed_165 (by decide) (fun c => ?_) (fun c => ?_))))
                      · have h := ite_f h c
                        exact x_aload_n C dX12_printed_173 rfl 0 rfl (gM_X12_56 C u_5_136 dX12_printed_174 (x_iret E h retI dX12_printed_177))
                      · have h := ite_t h c
                        exact x_bipush C dX12_printed_168 kb_m2 (x_goto C (tgt := 177) dX12_printed_170 (by decide) (x_iret E h retI dX12_printed_177))
                    · have h := ite_f h c3
                      refine x_table C (tgt := 178) dX12_printed_95 (by decide) (by rw [tsw_d [0, 1, 2, 3] (by intro k hk; simp only [List.mem_cons, List.not_mem_nil, or_false] at hk; rcases hk with rfl | rfl | rfl | rfl <;> assumption) (by decide)]; decide) ?_
                      exact x_aload_n C dX12_printed_178 rfl 0 rfl (gM_X12_55 C u_5_135 dX12_printed_179 (x_iret E h retI dX12_printed_182))
            · have h := ite_t h c
              obtain ⟨g58, h⟩ := G_some h
              obtain ⟨g64, h⟩ := G_some h
              obtain ⟨r66, S66, e66, h⟩ := cal_some h
              refine x_aload_n C dX12_printed_52 rfl 0 rfl (x_aload_n C dX12_printed_53 rfl 0 rfl (gM_X12_50 C u_5_130 dX12_printed_54 (x_iload_n C dX12_printed_57 rfl 1 rfl (aM_32 C g58 dX12_printed_58 (x_aload_n C dX12_printed_59 rfl 0 rfl (gM_X12_47 C u_5_127 dX12_printed_60 (x_iload_n C dX12_printed_63 rfl 1 rfl (aM_29 C g64 dX12_printed_64 (x_iload_n C dX12_printed_65 rfl 3 rfl (x_callVi C (c_m_whoIn e66) k_X12_328 (ci := 12) (q0 := 0) rfl rfl (by decide) (Nat.le_of_ble_eq_true rfl) rfl dX12_printed_66 (x_istore C dX12_printed_69 (by decide) rfl (x_iload C dX12_printed_71 0 rfl (x_iconst C dX12_printed_73 kc_m1 (x_icmp_ne C (tgt := 82) dX12_printed_74 (by decide) (fun c => ?_) (fun c => ?_)))))))))))))))
              · have h := ite_f h c
                exact x_iload C dX12_printed_82 0 rfl (x_iret E h retI dX12_printed_84)
              · have h := ite_t h c
                exact x_bipush C dX12_printed_77 kb_m2 (x_goto C (tgt := 84) dX12_printed_79 (by decide) (x_iret E h retI dX12_printed_84))
          · have h := ite_t h c
            exact x_iconst C dX12_printed_44 kc_m1 (x_iret E h retI dX12_printed_45)
