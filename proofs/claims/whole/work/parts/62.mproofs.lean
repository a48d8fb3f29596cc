set_option maxHeartbeats 4000000 in
theorem w_m_fact_j91 {z : ZT} {ad : AD} {ek : EK} {lh : Launch} {Dh : va_G} {r : Int32} {S' : ST} (C : CX z ad ek cX12_fact RX12 lh Dh 3 5) (E : EI z (cM ad) cX12_fact (some .int) r S') {S : ST} {l1 : Int32} {l2 : Int32} {l3 : Int32} {s0 : Int32} {s1 : Int32} (h : m_fact_j91 S l1 l2 l3 s0 s1 = some (r, S')) : XW z (cM ad) 91 [(1, .int l1), (2, .int l2), (3, .int l3)] [.int s0, .int s1, .ref (ad.1 0)] S := by
  unfold m_fact_j91 at h
  refine x_iload_n C dX12_fact_91 rfl 1 rfl (x_iload_n C dX12_fact_92 rfl 0 rfl (x_iconst C dX12_fact_93 kc_2 (x_icmp_ge C (tgt := 101) dX12_fact_94 (by decide) (fun c => ?_) (fun c => ?_))))
  · have h := ite_t h c
    obtain ⟨r106, S106, e106, h⟩ := cal_some h
    exact x_iconst C dX12_fact_101 kc_0 (x_iconst C dX12_fact_102 kc_0 (x_iconst C dX12_fact_103 kc_0 (x_iconst C dX12_fact_104 kc_0 (x_iconst C dX12_fact_105 kc_0 (x_callVi C (c_m_tells e106) k_X12_310 (ci := 12) (q0 := 0) rfl rfl (by decide) (Nat.le_of_ble_eq_true rfl) rfl dX12_fact_106 (x_iret E h retI dX12_fact_109))))))
  · have h := ite_f h c
    obtain ⟨r106, S106, e106, h⟩ := cal_some h
    exact x_iload_n C dX12_fact_97 rfl 2 rfl (x_goto C (tgt := 102) dX12_fact_98 (by decide) (x_iconst C dX12_fact_102 kc_0 (x_iconst C dX12_fact_103 kc_0 (x_iconst C dX12_fact_104 kc_0 (x_iconst C dX12_fact_105 kc_0 (x_callVi C (c_m_tells e106) k_X12_310 (ci := 12) (q0 := 0) rfl rfl (by decide) (Nat.le_of_ble_eq_true rfl) rfl dX12_fact_106 (x_iret E h retI dX12_fact_109)))))))
set_option maxHeartbeats 4000000 in
theorem w_m_fact_j76 {z : ZT} {ad : AD} {ek : EK} {lh : Launch} {Dh : va_G} {r : Int32} {S' : ST} (C : CX z ad ek cX12_fact RX12 lh Dh 3 5) (E : EI z (cM ad) cX12_fact (some .int) r S') {S : ST} {l1 : Int32} {l2 : Int32} {l3 : Int32} {l4 : Int32} (h : m_fact_j76 S l1 l2 l3 l4 = some (r, S')) : XW z (cM ad) 76 [(0, .ref (ad.1 0)), (1, .int l1), (2, .int l2), (3, .int l3), (4, .int l4)] [] S := by
  unfold m_fact_j76 at h
  refine x_aload_n C dX12_fact_76 rfl 0 rfl (x_iconst C dX12_fact_77 kc_4 (x_iload_n C dX12_fact_78 rfl 1 rfl (x_iadd C dX12_fact_79 (x_iload_n C dX12_fact_80 rfl 1 rfl (x_iconst C dX12_fact_81 kc_1 (x_icmp_ne C (tgt := 89) dX12_fact_82 (by decide) (fun c => ?_) (fun c => ?_)))))))
  · have h := ite_f h c
    exact x_iload C dX12_fact_89 4 rfl (x_perm [1, 2, 3] rfl (w_m_fact_j91 C E h))
  · have h := ite_t h c
    exact x_iconst C dX12_fact_85 kc_m1 (x_goto C (tgt := 91) dX12_fact_86 (by decide) (x_perm [1, 2, 3] rfl (w_m_fact_j91 C E h)))
set_option maxHeartbeats 4000000 in
theorem w_m_fact_j58 {z : ZT} {ad : AD} {ek : EK} {lh : Launch} {Dh : va_G} {r : Int32} {S' : ST} (C : CX z ad ek cX12_fact RX12 lh Dh 3 5) (E : EI z (cM ad) cX12_fact (some .int) r S') {S : ST} {l1 : Int32} {l2 : Int32} {l3 : Int32} {l4 : Int32} (h : m_fact_j58 S l1 l2 l3 l4 = some (r, S')) : XW z (cM ad) 58 [(0, .ref (ad.1 0)), (1, .int l1), (2, .int l2), (3, .int l3), (4, .int l4)] [] S := by
  unfold m_fact_j58 at h
  refine x_iload_n C dX12_fact_58 rfl 1 rfl (x_iconst C dX12_fact_59 kc_3 (x_icmp_ne C (tgt := 76) dX12_fact_60 (by decide) (fun c => ?_) (fun c => ?_)))
  · have h := ite_f h c
    exact w_m_fact_j76 C E h
  · have h := ite_t h c
    obtain ⟨g70, h⟩ := G_some h
    refine x_iload C dX12_fact_63 4 rfl (x_aload_n C dX12_fact_65 rfl 0 rfl (gM_X12_47 C u_5_127 dX12_fact_66 (x_iload_n C dX12_fact_69 rfl 2 rfl (aM_29 C g70 dX12_fact_70 (x_icmp_ge C (tgt := 76) dX12_fact_71 (by decide) (fun c => ?_) (fun c => ?_))))))
    · have h := ite_t h c
      exact w_m_fact_j76 C E h
    · have h := ite_f h c
      exact x_iconst C dX12_fact_74 kc_m1 (x_iret E h retI dX12_fact_75)
set_option maxHeartbeats 4000000 in
theorem w_m_fact_j45 {z : ZT} {ad : AD} {ek : EK} {lh : Launch} {Dh : va_G} {r : Int32} {S' : ST} (C : CX z ad ek cX12_fact RX12 lh Dh 3 5) (E : EI z (cM ad) cX12_fact (some .int) r S') {S : ST} {l1 : Int32} {l2 : Int32} {l3 : Int32} {l4 : Int32} (h : m_fact_j45 S l1 l2 l3 l4 = some (r, S')) : XW z (cM ad) 45 [(0, .ref (ad.1 0)), (1, .int l1), (2, .int l2), (3, .int l3), (4, .int l4)] [] S := by
  unfold m_fact_j45 at h
  refine x_iload_n C dX12_fact_45 rfl 1 rfl (x_iconst C dX12_fact_46 kc_1 (x_icmp_eq C (tgt := 58) dX12_fact_47 (by decide) (fun c => ?_) (fun c => ?_)))
  · have h := ite_t h c
    exact w_m_fact_j58 C E h
  · have h := ite_f h c
    obtain ⟨r52, e52, h⟩ := cal0_some h
    refine x_iload C dX12_fact_50 4 rfl (x_callSi C (c_m_isDay e52) k_X12_292 (by decide) (Nat.le_of_ble_eq_true rfl) rfl dX12_fact_52 (x_if_eq C (tgt := 74) dX12_fact_55 (by decide) (fun c => ?_) (fun c => ?_)))
    · have h := ite_t h c
      exact x_iconst C dX12_fact_74 kc_m1 (x_iret E h retI dX12_fact_75)
    · have h := ite_f h c
      exact w_m_fact_j58 C E h
set_option maxHeartbeats 4000000 in
theorem c_m_fact {ad : AD} {ek : EK} {lh : Launch} {Dh : va_G} {r : Int32} {S' : ST}  {S : ST} {l1 : Int32} {l2 : Int32} {l3 : Int32} {l4 : Int32} (h : m_fact S l1 l2 l3 l4 = some (r, S')) : MXi lh Dh ad ek (cM ad) yX12_fact cX12_fact 5 (some .int) 3 [.ref (ad.1 0), .int l1, .int l2, .int l3, .int l4] S r S' := by
  refine mxi_of (by decide) (Nat.le_of_ble_eq_true rfl) (fun z C E => ?_)
  unfold m_fact at h
  refine x_aload_n C dX12_fact_0 rfl 0 rfl (gM_X12_45 C u_5_125 dX12_fact_1 (x_sipush C dX12_fact_4 ks_180 (x_icmp_eq C (tgt := 31) dX12_fact_7 (by decide) (fun c => ?_) (fun c => ?_))))
  · have h := ite_t h c
    exact x_iconst C dX12_fact_31 kc_m1 (x_iret E h retI dX12_fact_32)
  · have h := ite_f h c
    obtain ⟨r13, e13, h⟩ := cal0_some h
    refine x_iload_n C dX12_fact_10 rfl 1 rfl (x_iconst C dX12_fact_11 kc_0 (x_iconst C dX12_fact_12 kc_3 (x_callSi C (c_m_in e13) k_X12_288 (by decide) (Nat.le_of_ble_eq_true rfl) rfl dX12_fact_13 (x_if_eq C (tgt := 31) dX12_fact_16 (by decide) (fun c => ?_) (fun c => ?_)))))
    · have h := ite_t h c
      exact x_iconst C dX12_fact_31 kc_m1 (x_iret E h retI dX12_fact_32)
    · have h := ite_f h c
      obtain ⟨r25, S25, e25, h⟩ := cal_some h
      refine x_aload_n C dX12_fact_19 rfl 0 rfl (x_iload_n C dX12_fact_20 rfl 2 rfl (x_aload_n C dX12_fact_21 rfl 0 rfl (gM_X12_45 C u_5_125 dX12_fact_22 (x_callVi C (c_m_isLine e25) k_X12_317 (ci := 12) (q0 := 0) rfl rfl (by decide) (Nat.le_of_ble_eq_true rfl) rfl dX12_fact_25 (x_if_ne C (tgt := 33) dX12_fact_28 (by decide) (fun c => ?_) (fun c => ?_))))))
      · have h := ite_f h c
        refine x_iload_n C dX12_fact_33 rfl 1 rfl (x_iconst C dX12_fact_34 kc_2 (x_icmp_ge C (tgt := 45) dX12_fact_35 (by decide) (fun c => ?_) (fun c => ?_)))
        · have h := ite_t h c
          exact w_m_fact_j45 C E h
        · have h := ite_f h c
          obtain ⟨r39, e39, h⟩ := cal0_some h
          refine x_iload_n C dX12_fact_38 rfl 3 rfl (x_callSi C (c_m_isWord e39) k_X12_307 (by decide) (Nat.le_of_ble_eq_true rfl) rfl dX12_fact_39 (x_if_eq C (tgt := 74) dX12_fact_42 (by decide) (fun c => ?_) (fun c => ?_)))
          · have h := ite_t h c
            exact x_iconst C dX12_fact_74 kc_m1 (x_iret E h retI dX12_fact_75)
          · have h := ite_f h c
            exact w_m_fact_j45 C E h
      · have h := ite_t h c
        exact x_iconst C dX12_fact_31 kc_m1 (x_iret E h retI dX12_fact_32)
set_option maxHeartbeats 4000000 in
theorem w_m_fills_j288 {z : ZT} {ad : AD} {ek : EK} {lh : Launch} {Dh : va_G} {S' : ST} (C : CX z ad ek cX12_fills RX12 lh Dh 3 10) (E : EV z (cM ad) cX12_fills S') {S : ST} {l5 : Int32} {l6 : Int32} {l8 : Int32} {s0 : Int32} {s1 : Int32} (h : m_fills_j288 S l5 l6 l8 s0 s1 = some S') : XW z (cM ad) 288 [(0, .ref (ad.1 0)), (5, .int l5), (6, .int l6), (8, .int l8)] [.int s0, .int s1, .ref (ad.1 25)] S := by
  unfold m_fills_j288 at h
  obtain ⟨g288, h⟩ := G_some h
  obtain ⟨g297, h⟩ := G_some h
  obtain ⟨g305, h⟩ := G_some h
  obtain ⟨g313, h⟩ := G_some h
  obtain ⟨g322, h⟩ := G_some h
  obtain ⟨g330, h⟩ := G_some h
  obtain ⟨g339, h⟩ := G_some h
  exact sM_25 C g288 dX12_fills_288 (x_aload_n C dX12_fills_289 rfl 0 rfl (gM_X12_39 C u_5_119 dX12_fills_290 (x_bipush C dX12_fills_293 kb_6 (x_iload C dX12_fills_295 1 rfl (sM_25 C g297 dX12_fills_297 (x_aload_n C dX12_fills_298 rfl 0 rfl (gM_X12_39 C u_5_119 dX12_fills_299 (x_bipush C dX12_fills_302 kb_7 (x_iconst C dX12_fills_304 kc_0 (sM_25 C g305 dX12_fills_305 (x_aload_n C dX12_fills_306 rfl 0 rfl (gM_X12_39 C u_5_119 dX12_fills_307 (x_bipush C dX12_fills_310 kb_8 (x_iconst C dX12_fills_312 kc_0 (sM_25 C g313 dX12_fills_313 (x_aload_n C dX12_fills_314 rfl 0 rfl (gM_X12_39 C u_5_119 dX12_fills_315 (x_bipush C dX12_fills_318 kb_9 (x_iload C dX12_fills_320 2 rfl (sM_25 C g322 dX12_fills_322 (x_aload_n C dX12_fills_323 rfl 0 rfl (gM_X12_39 C u_5_119 dX12_fills_324 (x_bipush C dX12_fills_327 kb_10 (x_iconst C dX12_fills_329 kc_0 (sM_25 C g330 dX12_fills_330 (x_aload_n C dX12_fills_331 rfl 0 rfl (gM_X12_39 C u_5_119 dX12_fills_332 (x_bipush C dX12_fills_335 kb_11 (x_iload C dX12_fills_337 3 rfl (sM_25 C g339 dX12_fills_339 (x_vret E h dX12_fills_340)))))))))))))))))))))))))))))))
set_option maxHeartbeats 4000000 in
theorem w_m_fills_j213 {z : ZT} {ad : AD} {ek : EK} {lh : Launch} {Dh : va_G} {S' : ST} (C : CX z ad ek cX12_fills RX12 lh Dh 3 10) (E : EV z (cM ad) cX12_fills S') {S : ST} {l1 : Int32} {l4 : Int32} {l5 : Int32} {l6 : Int32} {l7 : Int32} {l8 : Int32} (h : m_fills_j213 S l1 l4 l5 l6 l7 l8 = some S') : XW z (cM ad) 213 [(0, .ref (ad.1 0)), (1, .int l1), (4, .int l4), (5, .int l5), (6, .int l6), (7, .int l7), (8, .int l8)] [] S := by
  unfold m_fills_j213 at h
  obtain ⟨g223, h⟩ := G_some h
  obtain ⟨g224, h⟩ := G_some h
  obtain ⟨g235, h⟩ := G_some h
  obtain ⟨g236, h⟩ := G_some h
  obtain ⟨g244, h⟩ := G_some h
  obtain ⟨g255, h⟩ := G_some h
  obtain ⟨g256, h⟩ := G_some h
  obtain ⟨g267, h⟩ := G_some h
  obtain ⟨g268, h⟩ := G_some h
  refine x_aload_n C dX12_fills_213 rfl 0 rfl (gM_X12_39 C u_5_119 dX12_fills_214 (x_iconst C dX12_fills_217 kc_0 (x_aload_n C dX12_fills_218 rfl 0 rfl (gM_X12_51 C u_5_131 dX12_fills_219 (x_iload_n C dX12_fills_222 rfl 1 rfl (aM_33 C g223 dX12_fills_223 (sM_25 C g224 dX12_fills_224 (x_aload_n C dX12_fills_225 rfl 0 rfl (gM_X12_39 C u_5_119 dX12_fills_226 (x_iconst C dX12_fills_229 kc_1 (x_aload_n C dX12_fills_230 rfl 0 rfl (gM_X12_51 C u_5_131 dX12_fills_231 (x_iload_n C dX12_fills_234 rfl 1 rfl (aM_33 C g235 dX12_fills_235 (sM_25 C g236 dX12_fills_236 (x_aload_n C dX12_fills_237 rfl 0 rfl (gM_X12_39 C u_5_119 dX12_fills_238 (x_iconst C dX12_fills_241 kc_2 (x_iload C dX12_fills_242 5 rfl (sM_25 C g244 dX12_fills_244 (x_aload_n C dX12_fills_245 rfl 0 rfl (gM_X12_39 C u_5_119 dX12_fills_246 (x_iconst C dX12_fills_249 kc_3 (x_aload_n C dX12_fills_250 rfl 0 rfl (gM_X12_49 C u_5_129 dX12_fills_251 (x_iload_n C dX12_fills_254 rfl 1 rfl (aM_31 C g255 dX12_fills_255 (sM_25 C g256 dX12_fills_256 (x_aload_n C dX12_fills_257 rfl 0 rfl (gM_X12_39 C u_5_119 dX12_fills_258 (x_iconst C dX12_fills_261 kc_4 (x_aload_n C dX12_fills_262 rfl 0 rfl (gM_X12_48 C u_5_128 dX12_fills_263 (x_iload_n C dX12_fills_266 rfl 1 rfl (aM_30 C g267 dX12_fills_267 (sM_25 C g268 dX12_fills_268 (x_aload_n C dX12_fills_269 rfl 0 rfl (gM_X12_39 C u_5_119 dX12_fills_270 (x_iconst C dX12_fills_273 kc_5 (x_iload C dX12_fills_274 2 rfl (x_iconst C dX12_fills_276 kc_m1 (x_icmp_ne C (tgt := 284) dX12_fills_277 (by decide) (fun c => ?_) (fun c => ?_)))))))))))))))))))))))))))))))))))))))))))
  · have h := ite_f h c
    exact x_iload C dX12_fills_284 2 rfl (x_iconst C dX12_fills_286 kc_1 (x_iadd C dX12_fills_287 (x_perm [0, 3, 4, 6] rfl (w_m_fills_j288 C E h))))
  · have h := ite_t h c
    exact x_iconst C dX12_fills_280 kc_0 (x_goto C (tgt := 288) dX12_fills_281 (by decide) (x_perm [0, 3, 4, 6] rfl (w_m_fills_j288 C E h)))
set_option maxHeartbeats 4000000 in
theorem w_m_fills_j207 {z : ZT} {ad : AD} {ek : EK} {lh : Launch} {Dh : va_G} {S' : ST} (C : CX z ad ek cX12_fills RX12 lh Dh 3 10) (E : EV z (cM ad) cX12_fills S') {Kb : ST → Int32 → Int32 → Int32 → Int32 → Int32 → Int32 → Int32 → Int32 → Int32 → Option ST} (hKb : ∀ (S : ST) (l1 : Int32) (l2 : Int32) (l3 : Int32) (l4 : Int32) (l5 : Int32) (l6 : Int32) (l7 : Int32) (l8 : Int32) (l9 : Int32) , Kb S l1 l2 l3 l4 l5 l6 l7 l8 l9 = some S' → XW z (cM ad) 36 [(0, .ref (ad.1 0)), (1, .int l1), (2, .int l2), (3, .int l3), (4, .int l4), (5, .int l5), (6, .int l6), (7, .int l7), (8, .int l8), (9, .int l9)] [] S) {K213 : ST → Int32 → Int32 → Int32 → Int32 → Int32 → Int32 → Option ST} (hK213 : ∀ (S : ST) (l1 : Int32) (l4 : Int32) (l5 : Int32) (l6 : Int32) (l7 : Int32) (l8 : Int32) , K213 S l1 l4 l5 l6 l7 l8 = some S' → XW z (cM ad) 213 [(0, .ref (ad.1 0)), (1, .int l1), (4, .int l4), (5, .int l5), (6, .int l6), (7, .int l7), (8, .int l8)] [] S) {S : ST} {l1 : Int32} {l2 : Int32} {l3 : Int32} {l4 : Int32} {l5 : Int32} {l6 : Int32} {l7 : Int32} {l8 : Int32} {l9 : Int32} (h : m_fills_j207 Kb K213 S l1 l2 l3 l4 l5 l6 l7 l8 l9 = some S') : XW z (cM ad) 207 [(0, .ref (ad.1 0)), (1, .int l1), (2, .int l2), (3, .int l3), (4, .int l4), (5, .int l5), (6, .int l6), (7, .int l7), (8, .int l8), (9, .int l9)] [] S := by
  unfold m_fills_j207 at h
  exact x_iinc C dX12_fills_207 9 rfl ki_1 (by decide) rfl (x_goto C (tgt := 36) dX12_fills_210 (by decide) (x_perm [1, 2, 3, 4, 5, 6, 7, 8, 9, 0] rfl (hKb _ _ _ _ _ _ _ _ _ _ h)))
set_option maxHeartbeats 4000000 in
theorem w_m_fills_j167 {z : ZT} {ad : AD} {ek : EK} {lh : Launch} {Dh : va_G} {S' : ST} (C : CX z ad ek cX12_fills RX12 lh Dh 3 10) (E : EV z (cM ad) cX12_fills S') {Kb : ST → Int32 → Int32 → Int32 → Int32 → Int32 → Int32 → Int32 → Int32 → Int32 → Option ST} (hKb : ∀ (S : ST) (l1 : Int32) (l2 : Int32) (l3 : Int32) (l4 : Int32) (l5 : Int32) (l6 : Int32) (l7 : Int32) (l8 : Int32) (l9 : Int32) , Kb S l1 l2 l3 l4 l5 l6 l7 l8 l9 = some S' → XW z (cM ad) 36 [(0, .ref (ad.1 0)), (1, .int l1), (2, .int l2), (3, .int l3), (4, .int l4), (5, .int l5), (6, .int l6), (7, .int l7), (8, .int l8), (9, .int l9)] [] S) {K213 : ST → Int32 → Int32 → Int32 → Int32 → Int32 → Int32 → Option ST} (hK213 : ∀ (S : ST) (l1 : Int32) (l4 : Int32) (l5 : Int32) (l6 : Int32) (l7 : Int32) (l8 : Int32) , K213 S l1 l4 l5 l6 l7 l8 = some S' → XW z (cM ad) 213 [(0, .ref (ad.1 0)), (1, .int l1), (4, .int l4), (5, .int l5), (6, .int l6), (7, .int l7), (8, .int l8)] [] S) {S : ST} {l1 : Int32} {l2 : Int32} {l3 : Int32} {l4 : Int32} {l5 : Int32} {l6 : Int32} {l7 : Int32} {l8 : Int32} {l9 : Int32} (h : m_fills_j167 Kb K213 S l1 l2 l3 l4 l5 l6 l7 l8 l9 = some S') : XW z (cM ad) 167 [(0, .ref (ad.1 0)), (1, .int l1), (2, .int l2), (3, .int l3), (4, .int l4), (5, .int l5), (6, .int l6), (7, .int l7), (8, .int l8), (9, .int l9)] [] S := by
  unfold m_fills_j167 at h
  obtain ⟨g173, h⟩ := G_some h
  refine x_aload_n C dX12_fills_167 rfl 0 rfl (gM_X12_46 C u_5_126 dX12_fills_168 (x_iload C dX12_fills_171 9 rfl (aM_28 C g173 dX12_fills_173 (x_if_ne C (tgt := 207) dX12_fills_174 (by decide) (fun c => ?_) (fun c => ?_)))))
  · have h := ite_f h c
    exact w_m_fills_j207 C E hKb hK213 h
  · have h := ite_t h c
    obtain ⟨g183, h⟩ := G_some h
    refine x_aload_n C dX12_fills_177 rfl 0 rfl (gM_X12_47 C u_5_127 dX12_fills_178 (x_iload C dX12_fills_181 9 rfl (aM_29 C g183 dX12_fills_183 (x_iload_n C dX12_fills_184 rfl 3 rfl (x_icmp_ne C (tgt := 207) dX12_fills_185 (by decide) (fun c => ?_) (fun c => ?_))))))
    · have h := ite_f h c
      exact w_m_fills_j207 C E hKb hK213 h
    · have h := ite_t h c
      obtain ⟨g194, h⟩ := G_some h
      obtain ⟨g200, h⟩ := G_some h
      refine x_aload_n C dX12_fills_188 rfl 0 rfl (gM_X12_50 C u_5_130 dX12_fills_189 (x_iload C dX12_fills_192 9 rfl (aM_32 C g194 dX12_fills_194 (x_aload_n C dX12_fills_195 rfl 0 rfl (gM_X12_50 C u_5_130 dX12_fills_196 (x_iload_n C dX12_fills_199 rfl 1 rfl (aM_32 C g200 dX12_fills_200 (x_icmp_ne C (tgt := 207) dX12_fills_201 (by decide) (fun c => ?_) (fun c => ?_)))))))))
      · have h := ite_f h c
        exact w_m_fills_j207 C E hKb hK213 h
      · have h := ite_t h c
        exact x_iinc C dX12_fills_204 8 rfl ki_1 (by decide) rfl (x_perm [1, 2, 3, 4, 5, 6, 7, 8, 0, 9] rfl (w_m_fills_j207 C E hKb hK213 h))
set_option maxHeartbeats 4000000 in
theorem w_m_fills_j105 {z : ZT} {ad : AD} {ek : EK} {lh : Launch} {Dh : va_G} {S' : ST} (C : CX z ad ek cX12_fills RX12 lh Dh 3 10) (E : EV z (cM ad) cX12_fills S') {Kb : ST → Int32 → Int32 → Int32 → Int32 → Int32 → Int32 → Int32 → Int32 → Int32 → Option ST} (hKb : ∀ (S : ST) (l1 : Int32) (l2 : Int32) (l3 : Int32) (l4 : Int32) (l5 : Int32) (l6 : Int32) (l7 : Int32) (l8 : Int32) (l9 : Int32) , Kb S l1 l2 l3 l4 l5 l6 l7 l8 l9 = some S' → XW z (cM ad) 36 [(0, .ref (ad.1 0)), (1, .int l1), (2, .int l2), (3, .int l3), (4, .int l4), (5, .int l5), (6, .int l6), (7, .int l7), (8, .int l8), (9, .int l9)] [] S) {K213 : ST → Int32 → Int32 → Int32 → Int32 → Int32 → Int32 → Option ST} (hK213 : ∀ (S : ST) (l1 : Int32) (l4 : Int32) (l5 : Int32) (l6 : Int32) (l7 : Int32) (l8 : Int32) , K213 S l1 l4 l5 l6 l7 l8 = some S' → XW z (cM ad) 213 [(0, .ref (ad.1 0)), (1, .int l1), (4, .int l4), (5, .int l5), (6, .int l6), (7, .int l7), (8, .int l8)] [] S) {S : ST} {l1 : Int32} {l2 : Int32} {l3 : Int32} {l4 : Int32} {l5 : Int32} {l6 : Int32} {l7 : Int32} {l8 : Int32} {l9 : Int32} (h : m_fills_j105 Kb K213 S l1 l2 l3 l4 l5 l6 l7 l8 l9 = some S') : XW z (cM ad) 105 [(0, .ref (ad.1 0)), (1, .int l1), (2, .int l2), (3, .int l3), (4, .int l4), (5, .int l5), (6, .int l6), (7, .int l7), (8, .int l8), (9, .int l9)] [] S := by
  unfold m_fills_j105 at h
  obtain ⟨g111, h⟩ := G_some h
  refine x_aload_n C dX12_fills_105 rfl 0 rfl (gM_X12_46 C u_5_126 dX12_fills_106 (x_iload C dX12_fills_109 9 rfl (aM_28 C g111 dX12_fills_111 (x_iconst C dX12_fills_112 kc_3 (x_icmp_ne C (tgt := 167) dX12_fills_113 (by decide) (fun c => ?_) (fun c => ?_))))))
  · have h := ite_f h c
    exact w_m_fills_j167 C E hKb hK213 h
  · have h := ite_t h c
    obtain ⟨g121, h⟩ := G_some h
    refine x_aload_n C dX12_fills_116 rfl 0 rfl (gM_X12_49 C u_5_129 dX12_fills_117 (x_iload_n C dX12_fills_120 rfl 1 rfl (aM_31 C g121 dX12_fills_121 (x_iconst C dX12_fills_122 kc_1 (x_icmp_ne C (tgt := 167) dX12_fills_123 (by decide) (fun c => ?_) (fun c => ?_))))))
    · have h := ite_f h c
      exact w_m_fills_j167 C E hKb hK213 h
    · have h := ite_t h c
      obtain ⟨g132, h⟩ := G_some h
      obtain ⟨g138, h⟩ := G_some h
      refine x_aload_n C dX12_fills_126 rfl 0 rfl (gM_X12_48 C u_5_128 dX12_fills_127 (x_iload C dX12_fills_130 9 rfl (aM_30 C g132 dX12_fills_132 (x_aload_n C dX12_fills_133 rfl 0 rfl (gM_X12_52 C u_5_132 dX12_fills_134 (x_iload_n C dX12_fills_137 rfl 1 rfl (aM_34 C g138 dX12_fills_138 (x_icmp_ne C (tgt := 167) dX12_fills_139 (by decide) (fun c => ?_) (fun c => ?_)))))))))
      · have h := ite_f h c
        exact w_m_fills_j167 C E hKb hK213 h
      · have h := ite_t h c
        obtain ⟨g148, h⟩ := G_some h
        obtain ⟨g154, h⟩ := G_some h
        refine x_aload_n C dX12_fills_142 rfl 0 rfl (gM_X12_49 C u_5_129 dX12_fills_143 (x_iload C dX12_fills_146 9 rfl (aM_31 C g148 dX12_fills_148 (x_aload_n C dX12_fills_149 rfl 0 rfl (gM_X12_53 C u_5_133 dX12_fills_150 (x_iload_n C dX12_fills_153 rfl 1 rfl (aM_35 C g154 dX12_fills_154 (x_icmp_ne C (tgt := 167) dX12_fills_155 (by decide) (fun c => ?_) (fun c => ?_)))))))))
        · have h := ite_f h c
          exact w_m_fills_j167 C E hKb hK213 h
        · have h := ite_t h c
          obtain ⟨g164, h⟩ := G_some h
          exact x_aload_n C dX12_fills_158 rfl 0 rfl (gM_X12_50 C u_5_130 dX12_fills_159 (x_iload C dX12_fills_162 9 rfl (aM_32 C g164 dX12_fills_164 (x_istore C dX12_fills_165 (by decide) rfl (x_perm [1, 2, 3, 4, 5, 6, 7, 0, 8, 9] rfl (w_m_fills_j167 C E hKb hK213 h))))))
set_option maxHeartbeats 4000000 in
theorem w_m_fills_j74 {z : ZT} {ad : AD} {ek : EK} {lh : Launch} {Dh : va_G} {S' : ST} (C : CX z ad ek cX12_fills RX12 lh Dh 3 10) (E : EV z (cM ad) cX12_fills S') {Kb : ST → Int32 → Int32 → Int32 → Int32 → Int32 → Int32 → Int32 → Int32 → Int32 → Option ST} (hKb : ∀ (S : ST) (l1 : Int32) (l2 : Int32) (l3 : Int32) (l4 : Int32) (l5 : Int32) (l6 : Int32) (l7 : Int32) (l8 : Int32) (l9 : Int32) , Kb S l1 l2 l3 l4 l5 l6 l7 l8 l9 = some S' → XW z (cM ad) 36 [(0, .ref (ad.1 0)), (1, .int l1), (2, .int l2), (3, .int l3), (4, .int l4), (5, .int l5), (6, .int l6), (7, .int l7), (8, .int l8), (9, .int l9)] [] S) {K213 : ST → Int32 → Int32 → Int32 → Int32 → Int32 → Int32 → Option ST} (hK213 : ∀ (S : ST) (l1 : Int32) (l4 : Int32) (l5 : Int32) (l6 : Int32) (l7 : Int32) (l8 : Int32) , K213 S l1 l4 l5 l6 l7 l8 = some S' → XW z (cM ad) 213 [(0, .ref (ad.1 0)), (1, .int l1), (4, .int l4), (5, .int l5), (6, .int l6), (7, .int l7), (8, .int l8)] [] S) {S : ST} {l1 : Int32} {l2 : Int32} {l3 : Int32} {l4 : Int32} {l5 : Int32} {l6 : Int32} {l7 : Int32} {l8 : Int32} {l9 : Int32} (h : m_fills_j74 Kb K213 S l1 l2 l3 l4 l5 l6 l7 l8 l9 = some S') : XW z (cM ad) 74 [(0, .ref (ad.1 0)), (1, .int l1), (2, .int l2), (3, .int l3), (4, .int l4), (5, .int l5), (6, .int l6), (7, .int l7), (8, .int l8), (9, .int l9)] [] S := by
  unfold m_fills_j74 at h
  obtain ⟨g80, h⟩ := G_some h
  refine x_aload_n C dX12_fills_74 rfl 0 rfl (gM_X12_46 C u_5_126 dX12_fills_75 (x_iload C dX12_fills_78 9 rfl (aM_28 C g80 dX12_fills_80 (x_iconst C dX12_fills_81 kc_5 (x_icmp_ne C (tgt := 105) dX12_fills_82 (by decide) (fun c => ?_) (fun c => ?_))))))
  · have h := ite_f h c
    exact w_m_fills_j105 C E hKb hK213 h
  · have h := ite_t h c
    obtain ⟨g91, h⟩ := G_some h
    refine x_aload_n C dX12_fills_85 rfl 0 rfl (gM_X12_48 C u_5_128 dX12_fills_86 (x_iload C dX12_fills_89 9 rfl (aM_30 C g91 dX12_fills_91 (x_iload_n C dX12_fills_92 rfl 1 rfl (x_icmp_ne C (tgt := 105) dX12_fills_93 (by decide) (fun c => ?_) (fun c => ?_))))))
    · have h := ite_f h c
      exact w_m_fills_j105 C E hKb hK213 h
    · have h := ite_t h c
      obtain ⟨g102, h⟩ := G_some h
      exact x_aload_n C dX12_fills_96 rfl 0 rfl (gM_X12_49 C u_5_129 dX12_fills_97 (x_iload C dX12_fills_100 9 rfl (aM_31 C g102 dX12_fills_102 (x_istore C dX12_fills_103 (by decide) rfl (x_perm [1, 2, 3, 4, 5, 6, 0, 7, 8, 9] rfl (w_m_fills_j105 C E hKb hK213 h))))))
set_option maxHeartbeats 4000000 in
theorem w_m_fills_h36 {z : ZT} {ad : AD} {ek : EK} {lh : Launch} {Dh : va_G} {S' : ST} (C : CX z ad ek cX12_fills RX12 lh Dh 3 10) (E : EV z (cM ad) cX12_fills S') {K213 : ST → Int32 → Int32 → Int32 → Int32 → Int32 → Int32 → Option ST} (hK213 : ∀ (S : ST) (l1 : Int32) (l4 : Int32) (l5 : Int32) (l6 : Int32) (l7 : Int32) (l8 : Int32) , K213 S l1 l4 l5 l6 l7 l8 = some S' → XW z (cM ad) 213 [(0, .ref (ad.1 0)), (1, .int l1), (4, .int l4), (5, .int l5), (6, .int l6), (7, .int l7), (8, .int l8)] [] S) : ∀ (n : Nat) (S : ST) (l1 : Int32) (l2 : Int32) (l3 : Int32) (l4 : Int32) (l5 : Int32) (l6 : Int32) (l7 : Int32) (l8 : Int32) (l9 : Int32), m_fills_h36 K213 n S l1 l2 l3 l4 l5 l6 l7 l8 l9 = some S' → XW z (cM ad) 36 [(0, .ref (ad.1 0)), (1, .int l1), (2, .int l2), (3, .int l3), (4, .int l4), (5, .int l5), (6, .int l6), (7, .int l7), (8, .int l8), (9, .int l9)] [] S := by
  intro n
  induction n with
  | zero => intro S l1 l2 l3 l4 l5 l6 l7 l8 l9 h; cases h
  | succ n ih =>
    intro S l1 l2 l3 l4 l5 l6 l7 l8 l9 h
    have hKb := ih
    refine x_iload C dX12_fills_36 9 rfl (x_iload_n C dX12_fills_38 rfl 2 rfl (x_icmp_ge C (tgt := 213) dX12_fills_39 (by decide) (fun c => ?_) (fun c => ?_)))
    · have h := ite_t h c
      exact x_perm [0, 1, 4, 5, 6, 7, 8] rfl (hK213 _ _ _ _ _ _ _ h)
    · have h := ite_f h c
      obtain ⟨g48, h⟩ := G_some h
      refine x_aload_n C dX12_fills_42 rfl 0 rfl (gM_X12_46 C u_5_126 dX12_fills_43 (x_iload C dX12_fills_46 9 rfl (aM_28 C g48 dX12_fills_48 (x_iconst C dX12_fills_49 kc_2 (x_icmp_ne C (tgt := 74) dX12_fills_50 (by decide) (fun c => ?_) (fun c => ?_))))))
      · have h := ite_f h c
        exact w_m_fills_j74 C E hKb hK213 h
      · have h := ite_t h c
        obtain ⟨g59, h⟩ := G_some h
        refine x_aload_n C dX12_fills_53 rfl 0 rfl (gM_X12_48 C u_5_128 dX12_fills_54 (x_iload C dX12_fills_57 9 rfl (aM_30 C g59 dX12_fills_59 (x_iload C dX12_fills_60 4 rfl (x_icmp_ne C (tgt := 74) dX12_fills_62 (by decide) (fun c => ?_) (fun c => ?_))))))
        · have h := ite_f h c
          exact w_m_fills_j74 C E hKb hK213 h
        · have h := ite_t h c
          obtain ⟨g71, h⟩ := G_some h
          exact x_aload_n C dX12_fills_65 rfl 0 rfl (gM_X12_49 C u_5_129 dX12_fills_66 (x_iload C dX12_fills_69 9 rfl (aM_31 C g71 dX12_fills_71 (x_istore C dX12_fills_72 (by decide) rfl (x_perm [1, 2, 3, 4, 5, 0, 6, 7, 8, 9] rfl (w_m_fills_j74 C E hKb hK213 h))))))
set_option maxHeartbeats 4000000 in
theorem c_m_fills {ad : AD} {ek : EK} {lh : Launch} {Dh : va_G} {S' : ST}  {S : ST} {l1 : Int32} {l2 : Int32} (h : m_fills S l1 l2 = some S') : MXv lh Dh ad ek (cM ad) yX12_fills cX12_fills 10 none 3 [.ref (ad.1 0), .int l1, .int l2] S S' := by
  refine mxv_of (by decide) (Nat.le_of_ble_eq_true rfl) (fun z C E => ?_)
  unfold m_fills at h
  obtain ⟨g5, h⟩ := G_some h
  obtain ⟨g13, h⟩ := G_some h
  obtain ⟨r16, S16, e16, h⟩ := cal_some h
  exact x_aload_n C dX12_fills_0 rfl 0 rfl (gM_X12_47 C u_5_127 dX12_fills_1 (x_iload_n C dX12_fills_4 rfl 1 rfl (aM_29 C g5 dX12_fills_5 (x_istore_n C dX12_fills_6 rfl (by decide) rfl (x_aload_n C dX12_fills_7 rfl 1 rfl (x_aload_n C dX12_fills_8 rfl 1 rfl (gM_X12_50 C u_5_130 dX12_fills_9 (x_iload_n C dX12_fills_12 rfl 2 rfl (aM_32 C g13 dX12_fills_13 (x_iload_n C dX12_fills_14 rfl 0 rfl (x_iload_n C dX12_fills_15 rfl 3 rfl (x_callVi C (c_m_whoIn e16) k_X12_328 (ci := 12) (q0 := 0) rfl rfl (by decide) (Nat.le_of_ble_eq_true rfl) rfl dX12_fills_16 (x_istore C dX12_fills_19 (by decide) rfl (x_iconst C dX12_fills_21 kc_0 (x_istore C dX12_fills_22 (by decide) rfl (x_iconst C dX12_fills_24 kc_0 (x_istore C dX12_fills_25 (by decide) rfl (x_iconst C dX12_fills_27 kc_0 (x_istore C dX12_fills_28 (by decide) rfl (x_iconst C dX12_fills_30 kc_0 (x_istore C dX12_fills_31 (by decide) rfl (x_iconst C dX12_fills_33 kc_0 (x_istore C dX12_fills_34 (by decide) rfl (x_perm [7, 8, 9, 6, 5, 4, 3, 2, 1, 0] rfl (w_m_fills_h36 C E (fun _ _ _ _ _ _ _ h => w_m_fills_j213 C E  h) FU _ _ _ _ _ _ _ _ _ _ h)))))))))))))))))))))))))
set_option maxHeartbeats 4000000 in
theorem w_m_holds_j79 {z : ZT} {ad : AD} {ek : EK} {lh : Launch} {Dh : va_G} {r : Int32} {S' : ST} (C : CX z ad ek cX12_holds RX12 lh Dh 3 4) (E : EI z (cM ad) cX12_holds (some .boolean) r S') {Kb : ST → Int32 → Int32 → Int32 → Option (Int32 × ST)} (hKb : ∀ (S : ST) (l1 : Int32) (l2 : Int32) (l3 : Int32) , Kb S l1 l2 l3 = some (r, S') → XW z (cM ad) 26 [(0, .ref (ad.1 0)), (1, .int l1), (2, .int l2), (3, .int l3)] [] S) {S : ST} {l1 : Int32} {l3 : Int32} {s0 : Int32} (h : m_holds_j79 Kb S l1 l3 s0 = some (r, S')) : XW z (cM ad) 79 [(0, .ref (ad.1 0)), (1, .int l1), (3, .int l3)] [.int s0] S := by
  unfold m_holds_j79 at h
  exact x_istore_n C dX12_holds_79 rfl (by decide) rfl (x_iinc C dX12_holds_80 3 rfl ki_1 (by decide) rfl (x_goto C (tgt := 26) dX12_holds_83 (by decide) (x_perm [2, 3, 1, 0] rfl (hKb _ _ _ _ h))))
set_option maxHeartbeats 4000000 in
theorem w_m_holds_j78 {z : ZT} {ad : AD} {ek : EK} {lh : Launch} {Dh : va_G} {r : Int32} {S' : ST} (C : CX z ad ek cX12_holds RX12 lh Dh 3 4) (E : EI z (cM ad) cX12_holds (some .boolean) r S') {Kb : ST → Int32 → Int32 → Int32 → Option (Int32 × ST)} (hKb : ∀ (S : ST) (l1 : Int32) (l2 : Int32) (l3 : Int32) , Kb S l1 l2 l3 = some (r, S') → XW z (cM ad) 26 [(0, .ref (ad.1 0)), (1, .int l1), (2, .int l2), (3, .int l3)] [] S) {S : ST} {l1 : Int32} {l3 : Int32} (h : m_holds_j78 Kb S l1 l3 = some (r, S')) : XW z (cM ad) 78 [(0, .ref (ad.1 0)), (1, .int l1), (3, .int l3)] [] S := by
  unfold m_holds_j78 at h
  exact x_iconst C dX12_holds_78 kc_0 (w_m_holds_j79 C E hKb h)
set_option maxHeartbeats 4000000 in
theorem w_m_holds_j62 {z : ZT} {ad : AD} {ek : EK} {lh : Launch} {Dh : va_G} {r : Int32} {S' : ST} (C : CX z ad ek cX12_holds RX12 lh Dh 3 4) (E : EI z (cM ad) cX12_holds (some .boolean) r S') {Kb : ST → Int32 → Int32 → Int32 → Option (Int32 × ST)} (hKb : ∀ (S : ST) (l1 : Int32) (l2 : Int32) (l3 : Int32) , Kb S l1 l2 l3 = some (r, S') → XW z (cM ad) 26 [(0, .ref (ad.1 0)), (1, .int l1), (2, .int l2), (3, .int l3)] [] S) {S : ST} {l1 : Int32} {l2 : Int32} {l3 : Int32} (h : m_holds_j62 Kb S l1 l2 l3 = some (r, S')) : XW z (cM ad) 62 [(0, .ref (ad.1 0)), (1, .int l1), (2, .int l2), (3, .int l3)] [] S := by
  unfold m_holds_j62 at h
  refine x_iload_n C dX12_holds_62 rfl 2 rfl (x_if_eq C (tgt := 78) dX12_holds_63 (by decide) (fun c => ?_) (fun c => ?_))
  · have h := ite_t h c
    exact x_perm [0, 1, 3] rfl (w_m_holds_j78 C E hKb h)
  · have h := ite_f h c
    obtain ⟨r68, S68, e68, h⟩ := cal_some h
    refine x_aload_n C dX12_holds_66 rfl 0 rfl (x_iload_n C dX12_holds_67 rfl 3 rfl (x_callVi C (c_m_isTrue e68) k_X12_276 (ci := 12) (q0 := 0) rfl rfl (by decide) (Nat.le_of_ble_eq_true rfl) rfl dX12_holds_68 (x_if_eq C (tgt := 78) dX12_holds_71 (by decide) (fun c => ?_) (fun c => ?_))))
    · have h := ite_t h c
      exact x_perm [0, 1, 3] rfl (w_m_holds_j78 C E hKb h)
    · have h := ite_f h c
      exact x_iconst C dX12_holds_74 kc_1 (x_goto C (tgt := 79) dX12_holds_75 (by decide) (x_perm [0, 1, 3] rfl (w_m_holds_j79 C E hKb h)))
set_option maxHeartbeats 4000000 in
theorem w_m_holds_j51 {z : ZT} {ad : AD} {ek : EK} {lh : Launch} {Dh : va_G} {r : Int32} {S' : ST} (C : CX z ad ek cX12_holds RX12 lh Dh 3 4) (E : EI z (cM ad) cX12_holds (some .boolean) r S') {Kb : ST → Int32 → Int32 → Int32 → Option (Int32 × ST)} (hKb : ∀ (S : ST) (l1 : Int32) (l2 : Int32) (l3 : Int32) , Kb S l1 l2 l3 = some (r, S') → XW z (cM ad) 26 [(0, .ref (ad.1 0)), (1, .int l1), (2, .int l2), (3, .int l3)] [] S) {S : ST} {l1 : Int32} {l2 : Int32} {l3 : Int32} (h : m_holds_j51 Kb S l1 l2 l3 = some (r, S')) : XW z (cM ad) 51 [(0, .ref (ad.1 0)), (1, .int l1), (2, .int l2), (3, .int l3)] [] S := by
  unfold m_holds_j51 at h
  obtain ⟨g56, h⟩ := G_some h
  refine x_aload_n C dX12_holds_51 rfl 0 rfl (gM_X12_30 C u_5_110 dX12_holds_52 (x_iload_n C dX12_holds_55 rfl 3 rfl (aM_18 C g56 dX12_holds_56 (x_if_eq C (tgt := 62) dX12_holds_57 (by decide) (fun c => ?_) (fun c => ?_)))))
  · have h := ite_t h c
    exact w_m_holds_j62 C E hKb h
  · have h := ite_f h c
    exact x_iconst C dX12_holds_60 kc_1 (x_istore_n C dX12_holds_61 rfl (by decide) rfl (x_perm [1, 2, 0, 3] rfl (w_m_holds_j62 C E hKb h)))
set_option maxHeartbeats 4000000 in
theorem w_m_holds_h26 {z : ZT} {ad : AD} {ek : EK} {lh : Launch} {Dh : va_G} {r : Int32} {S' : ST} (C : CX z ad ek cX12_holds RX12 lh Dh 3 4) (E : EI z (cM ad) cX12_holds (some .boolean) r S') : ∀ (n : Nat) (S : ST) (l1 : Int32) (l2 : Int32) (l3 : Int32), m_holds_h26 n S l1 l2 l3 = some (r, S') → XW z (cM ad) 26 [(0, .ref (ad.1 0)), (1, .int l1), (2, .int l2), (3, .int l3)] [] S := by
  intro n
  induction n with
  | zero => intro S l1 l2 l3 h; cases h
  | succ n ih =>
    intro S l1 l2 l3 h
    have hKb := ih
    obtain ⟨g32, h⟩ := G_some h
    refine x_iload_n C dX12_holds_26 rfl 3 rfl (x_aload_n C dX12_holds_27 rfl 0 rfl (gM_X12_26 C u_5_106 dX12_holds_28 (x_iload_n C dX12_holds_31 rfl 1 rfl (aM_15 C g32 dX12_holds_32 (x_icmp_ge C (tgt := 86) dX12_holds_33 (by decide) (fun c => ?_) (fun c => ?_))))))
    · have h := ite_t h c
      exact (by
        obtain ⟨g87, h⟩ := G_some h
        exact x_iload_n C dX12_holds_86 rfl 2 rfl (x_iret E h (retB g87) dX12_holds_87))
    · have h := ite_f h c
      obtain ⟨g41, h⟩ := G_some h
      refine x_aload_n C dX12_holds_36 rfl 0 rfl (gM_X12_30 C u_5_110 dX12_holds_37 (x_iload_n C dX12_holds_40 rfl 3 rfl (aM_18 C g41 dX12_holds_41 (x_if_eq C (tgt := 51) dX12_holds_42 (by decide) (fun c => ?_) (fun c => ?_)))))
      · have h := ite_t h c
        exact w_m_holds_j51 C E hKb h
      · have h := ite_f h c
        refine x_iload_n C dX12_holds_45 rfl 2 rfl (x_if_eq C (tgt := 51) dX12_holds_46 (by decide) (fun c => ?_) (fun c => ?_))
        · have h := ite_t h c
          exact w_m_holds_j51 C E hKb h
        · have h := ite_f h c
          exact (by
            exact x_iconst C dX12_holds_49 kc_1 (x_iret E h (retB rfl) dX12_holds_50))
set_option maxHeartbeats 4000000 in
theorem c_m_holds {ad : AD} {ek : EK} {lh : Launch} {Dh : va_G} {r : Int32} {S' : ST}  {S : ST} {l1 : Int32} (h : m_holds S l1 = some (r, S')) : MXi lh Dh ad ek (cM ad) yX12_holds cX12_holds 4 (some .boolean) 3 [.ref (ad.1 0), .int l1] S r S' := by
  refine mxi_of (by decide) (Nat.le_of_ble_eq_true rfl) (fun z C E => ?_)
  unfold m_holds at h
  obtain ⟨g5, h⟩ := G_some h
  obtain ⟨g11, h⟩ := G_some h
  refine x_aload_n C dX12_holds_0 rfl 0 rfl (gM_X12_25 C u_5_105 dX12_holds_1 (x_iload_n C dX12_holds_4 rfl 1 rfl (aM_14 C g5 dX12_holds_5 (x_aload_n C dX12_holds_6 rfl 0 rfl (gM_X12_26 C u_5_106 dX12_holds_7 (x_iload_n C dX12_holds_10 rfl 1 rfl (aM_15 C g11 dX12_holds_11 (x_icmp_ne C (tgt := 17) dX12_holds_12 (by decide) (fun c => ?_) (fun c => ?_)))))))))
  · have h := ite_f h c
    obtain ⟨g24, h⟩ := G_some h
    exact x_iconst C dX12_holds_17 kc_0 (x_istore_n C dX12_holds_18 rfl (by decide) rfl (x_aload_n C dX12_holds_19 rfl 1 rfl (gM_X12_25 C u_5_105 dX12_holds_20 (x_iload_n C dX12_holds_23 rfl 2 rfl (aM_14 C g24 dX12_holds_24 (x_istore_n C dX12_holds_25 rfl (by decide) rfl (x_perm [2, 3, 1, 0] rfl (w_m_holds_h26 C E FU _ _ _ _ h))))))))
  · have h := ite_t h c
    exact x_iconst C dX12_holds_15 kc_1 (x_iret E h (retB rfl) dX12_holds_16)
set_option maxHeartbeats 4000000 in
theorem c_m_isAsked {ad : AD} {ek : EK} {lh : Launch} {Dh : va_G} {r : Int32} {S' : ST}  {S : ST} {l1 : Int32} {l2 : Int32} {l3 : Int32} (h : m_isAsked S l1 l2 l3 = some (r, S')) : MXi lh Dh ad ek (cM ad) yX12_isAsked cX12_isAsked 4 (some .boolean) 3 [.ref (ad.1 0), .int l1, .int l2, .int l3] S r S' := by
  refine mxi_of (by decide) (Nat.le_of_ble_eq_true rfl) (fun z C E => ?_)
  unfold m_isAsked at h
  obtain ⟨r1, e1, h⟩ := cal0_some h
  refine x_iload_n C dX12_isAsked_0 rfl 1 rfl (x_callSi C (c_m_isWord e1) k_X12_307 (by decide) (Nat.le_of_ble_eq_true rfl) rfl dX12_isAsked_1 (x_if_eq C (tgt := 26) dX12_isAsked_4 (by decide) (fun c => ?_) (fun c => ?_)))
  · have h := ite_t h c
    exact x_iconst C dX12_isAsked_26 kc_0 (x_iret E h (retB rfl) dX12_isAsked_27)
  · have h := ite_f h c
    obtain ⟨r8, e8, h⟩ := cal0_some h
    refine x_iload_n C dX12_isAsked_7 rfl 2 rfl (x_callSi C (c_m_isDay e8) k_X12_292 (by decide) (Nat.le_of_ble_eq_true rfl) rfl dX12_isAsked_8 (x_if_eq C (tgt := 26) dX12_isAsked_11 (by decide) (fun c => ?_) (fun c => ?_)))
    · have h := ite_t h c
      exact x_iconst C dX12_isAsked_26 kc_0 (x_iret E h (retB rfl) dX12_isAsked_27)
    · have h := ite_f h c
      obtain ⟨r16, S16, e16, h⟩ := cal_some h
      refine x_aload_n C dX12_isAsked_14 rfl 0 rfl (x_iload_n C dX12_isAsked_15 rfl 3 rfl (x_callVi C (c_m_isKnown e16) k_X12_325 (ci := 12) (q0 := 0) rfl rfl (by decide) (Nat.le_of_ble_eq_true rfl) rfl dX12_isAsked_16 (x_if_eq C (tgt := 26) dX12_isAsked_19 (by decide) (fun c => ?_) (fun c => ?_))))
      · have h := ite_t h c
        exact x_iconst C dX12_isAsked_26 kc_0 (x_iret E h (retB rfl) dX12_isAsked_27)
      · have h := ite_f h c
        exact x_iconst C dX12_isAsked_22 kc_1 (x_goto C (tgt := 27) dX12_isAsked_23 (by decide) (x_iret E h (retB rfl) dX12_isAsked_27))
set_option maxHeartbeats 4000000 in
theorem c_m_isPrint {ad : AD} {ek : EK} {lh : Launch} {Dh : va_G} {r : Int32} {S' : ST}  {S : ST} {l1 : Int32} {l2 : Int32} {l3 : Int32} (h : m_isPrint S l1 l2 l3 = some (r, S')) : MXi lh Dh ad ek (cM ad) yX12_isPrint cX12_isPrint 4 (some .boolean) 3 [.ref (ad.1 0), .int l1, .int l2, .int l3] S r S' := by
  refine mxi_of (by decide) (Nat.le_of_ble_eq_true rfl) (fun z C E => ?_)
  unfold m_isPrint at h
  obtain ⟨r1, e1, h⟩ := cal0_some h
  refine x_iload_n C dX12_isPrint_0 rfl 1 rfl (x_callSi C (c_m_isDay e1) k_X12_292 (by decide) (Nat.le_of_ble_eq_true rfl) rfl dX12_isPrint_1 (x_if_eq C (tgt := 31) dX12_isPrint_4 (by decide) (fun c => ?_) (fun c => ?_)))
  · have h := ite_t h c
    exact x_iconst C dX12_isPrint_31 kc_0 (x_iret E h (retB rfl) dX12_isPrint_32)
  · have h := ite_f h c
    obtain ⟨r8, e8, h⟩ := cal0_some h
    refine x_iload_n C dX12_isPrint_7 rfl 2 rfl (x_callSi C (c_m_isDay e8) k_X12_292 (by decide) (Nat.le_of_ble_eq_true rfl) rfl dX12_isPrint_8 (x_if_eq C (tgt := 31) dX12_isPrint_11 (by decide) (fun c => ?_) (fun c => ?_)))
    · have h := ite_t h c
      exact x_iconst C dX12_isPrint_31 kc_0 (x_iret E h (retB rfl) dX12_isPrint_32)
    · have h := ite_f h c
      refine x_iload_n C dX12_isPrint_14 rfl 2 rfl (x_iload_n C dX12_isPrint_15 rfl 1 rfl (x_icmp_lt C (tgt := 31) dX12_isPrint_16 (by decide) (fun c => ?_) (fun c => ?_)))
      · have h := ite_t h c
        exact x_iconst C dX12_isPrint_31 kc_0 (x_iret E h (retB rfl) dX12_isPrint_32)
      · have h := ite_f h c
        obtain ⟨r21, S21, e21, h⟩ := cal_some h
        refine x_aload_n C dX12_isPrint_19 rfl 0 rfl (x_iload_n C dX12_isPrint_20 rfl 3 rfl (x_callVi C (c_m_isKnown e21) k_X12_325 (ci := 12) (q0 := 0) rfl rfl (by decide) (Nat.le_of_ble_eq_true rfl) rfl dX12_isPrint_21 (x_if_eq C (tgt := 31) dX12_isPrint_24 (by decide) (fun c => ?_) (fun c => ?_))))
        · have h := ite_t h c
          exact x_iconst C dX12_isPrint_31 kc_0 (x_iret E h (retB rfl) dX12_isPrint_32)
        · have h := ite_f h c
          exact x_iconst C dX12_isPrint_27 kc_1 (x_goto C (tgt := 32) dX12_isPrint_28 (by decide) (x_iret E h (retB rfl) dX12_isPrint_32))
set_option maxHeartbeats 4000000 in
theorem c_m_joined {ad : AD} {ek : EK} {lh : Launch} {Dh : va_G} {r : Int32} {S' : ST}  {S : ST} {l1 : Int32} (h : m_joined S l1 = some (r, S')) : MXi lh Dh ad ek (cM ad) yX12_joined cX12_joined 4 (some .int) 3 [.ref (ad.1 0), .int l1] S r S' := by
  refine mxi_of (by decide) (Nat.le_of_ble_eq_true rfl) (fun z C E => ?_)
  unfold m_joined at h
  obtain ⟨r1, S1, e1, h⟩ := cal_some h
  refine x_aload_n C dX12_joined_0 rfl 0 rfl (x_callVi C (c_m_join e1) k_X12_389 (ci := 12) (q0 := 0) rfl rfl (by decide) (Nat.le_of_ble_eq_true rfl) rfl dX12_joined_1 (x_istore_n C dX12_joined_4 rfl (by decide) rfl (x_iload_n C dX12_joined_5 rfl 2 rfl (x_if_lt C (tgt := 28) dX12_joined_6 (by decide) (fun c => ?_) (fun c => ?_)))))
  · have h := ite_t h c
    exact x_iconst C dX12_joined_28 kc_m1 (x_iret E h retI dX12_joined_29)
  · have h := ite_f h c
    obtain ⟨g15, h⟩ := G_some h
    obtain ⟨g21, h⟩ := G_some h
    refine x_iload_n C dX12_joined_9 rfl 2 rfl (x_aload_n C dX12_joined_10 rfl 1 rfl (gM_X12_63 C u_5_143 dX12_joined_11 (x_iconst C dX12_joined_14 kc_0 (aM_38 C g15 dX12_joined_15 (x_aload_n C dX12_joined_16 rfl 1 rfl (gM_X12_63 C u_5_143 dX12_joined_17 (x_iconst C dX12_joined_20 kc_1 (aM_38 C g21 dX12_joined_21 (x_iadd C dX12_joined_22 (x_iload_n C dX12_joined_23 rfl 0 rfl (x_isub C dX12_joined_24 (x_icmp_lt C (tgt := 30) dX12_joined_25 (by decide) (fun c => ?_) (fun c => ?_)))))))))))))
    · have h := ite_t h c
      obtain ⟨g36, h⟩ := G_some h
      refine x_iload_n C dX12_joined_30 rfl 2 rfl (x_aload_n C dX12_joined_31 rfl 1 rfl (gM_X12_63 C u_5_143 dX12_joined_32 (x_iconst C dX12_joined_35 kc_0 (aM_38 C g36 dX12_joined_36 (x_iload_n C dX12_joined_37 rfl 0 rfl (x_isub C dX12_joined_38 (x_icmp_ge C (tgt := 49) dX12_joined_39 (by decide) (fun c => ?_) (fun c => ?_))))))))
      · have h := ite_t h c
        obtain ⟨g62, h⟩ := G_some h
        obtain ⟨g66, h⟩ := G_some h
        obtain ⟨g74, h⟩ := G_some h
        refine x_aload_n C dX12_joined_49 rfl 1 rfl (gM_X12_62 C u_5_142 dX12_joined_50 (x_bipush C dX12_joined_53 kb_12 (x_iload_n C dX12_joined_55 rfl 2 rfl (x_iadd C dX12_joined_56 (x_aload_n C dX12_joined_57 rfl 1 rfl (gM_X12_63 C u_5_143 dX12_joined_58 (x_iconst C dX12_joined_61 kc_0 (aM_38 C g62 dX12_joined_62 (x_isub C dX12_joined_63 (x_iload_n C dX12_joined_64 rfl 0 rfl (x_iadd C dX12_joined_65 (aM_37 C g66 dX12_joined_66 (x_istore_n C dX12_joined_67 rfl (by decide) rfl (x_iload_n C dX12_joined_68 rfl 3 rfl (x_aload_n C dX12_joined_69 rfl 2 rfl (gM_X12_63 C u_5_143 dX12_joined_70 (x_iconst C dX12_joined_73 kc_0 (aM_38 C g74 dX12_joined_74 (x_icmp_lt C (tgt := 80) dX12_joined_75 (by decide) (fun c => ?_) (fun c => ?_))))))))))))))))))))
        · have h := ite_t h c
          obtain ⟨r82, S82, e82, h⟩ := cal_some h
          obtain ⟨g91, h⟩ := G_some h
          obtain ⟨r92, S92, e92, h⟩ := cal_some h
          refine x_aload_n C dX12_joined_80 rfl 2 rfl (x_iload_n C dX12_joined_81 rfl 0 rfl (x_callVi C (c_m_onTape e82) k_X12_393 (ci := 12) (q0 := 0) rfl rfl (by decide) (Nat.le_of_ble_eq_true rfl) rfl dX12_joined_82 (x_aload_n C dX12_joined_85 rfl 2 rfl (x_aload_n C dX12_joined_86 rfl 2 rfl (gM_X12_62 C u_5_142 dX12_joined_87 (x_iload_n C dX12_joined_90 rfl 3 rfl (aM_37 C g91 dX12_joined_91 (x_callVi C (c_m_onTape e92) k_X12_393 (ci := 12) (q0 := 0) rfl rfl (by decide) (Nat.le_of_ble_eq_true rfl) rfl dX12_joined_92 (x_icmp_le C (tgt := 102) dX12_joined_95 (by decide) (fun c => ?_) (fun c => ?_))))))))))
          · have h := ite_t h c
            obtain ⟨g107, h⟩ := G_some h
            exact x_aload_n C dX12_joined_102 rfl 2 rfl (gM_X12_62 C u_5_142 dX12_joined_103 (x_iload_n C dX12_joined_106 rfl 3 rfl (aM_37 C g107 dX12_joined_107 (x_iret E h retI dX12_joined_108))))
          · have h := ite_f h c
            exact x_iload_n C dX12_joined_98 rfl 0 rfl (x_goto C (tgt := 108) dX12_joined_99 (by decide) (x_iret E h retI dX12_joined_108))
        · have h := ite_f h c
          exact x_iload_n C dX12_joined_78 rfl 0 rfl (x_iret E h retI dX12_joined_79)
      · have h := ite_f h c
        obtain ⟨g47, h⟩ := G_some h
        exact x_aload_n C dX12_joined_42 rfl 1 rfl (gM_X12_62 C u_5_142 dX12_joined_43 (x_iload_n C dX12_joined_46 rfl 2 rfl (aM_37 C g47 dX12_joined_47 (x_iret E h retI dX12_joined_48))))
    · have h := ite_f h c
      exact x_iconst C dX12_joined_28 kc_m1 (x_iret E h retI dX12_joined_29)
set_option maxHeartbeats 4000000 in
theorem c_m_later {ad : AD} {ek : EK} {lh : Launch} {Dh : va_G} {S' : ST}  {S : ST} {l1 : Int32} {l2 : Int32} (h : m_later S l1 l2 = some S') : MXv lh Dh ad ek (cM ad) yX12_later cX12_later 3 none 3 [.ref (ad.1 0), .int l1, .int l2] S S' := by
  refine mxv_of (by decide) (Nat.le_of_ble_eq_true rfl) (fun z C E => ?_)
  unfold m_later at h
  obtain ⟨g9, h⟩ := G_some h
  obtain ⟨g20, h⟩ := G_some h
  obtain ⟨g33, h⟩ := G_some h
  obtain ⟨g35, h⟩ := G_some h
  obtain ⟨g43, h⟩ := G_some h
  obtain ⟨S46, e46, h⟩ := calV_some h
  exact x_aload_n C dX12_later_0 rfl 0 rfl (gM_X12_39 C u_5_119 dX12_later_1 (x_iconst C dX12_later_4 kc_0 (x_aload_n C dX12_later_5 rfl 0 rfl (gM_X12_54 C u_5_134 dX12_later_6 (sM_25 C g9 dX12_later_9 (x_aload_n C dX12_later_10 rfl 0 rfl (gM_X12_39 C u_5_119 dX12_later_11 (x_bipush C dX12_later_14 kb_8 (x_aload_n C dX12_later_16 rfl 0 rfl (gM_X12_55 C u_5_135 dX12_later_17 (sM_25 C g20 dX12_later_20 (x_aload_n C dX12_later_21 rfl 0 rfl (gM_X12_39 C u_5_119 dX12_later_22 (x_bipush C dX12_later_25 kb_7 (x_iload_n C dX12_later_27 rfl 2 rfl (x_aload_n C dX12_later_28 rfl 0 rfl (gM_X12_47 C u_5_127 dX12_later_29 (x_iload_n C dX12_later_32 rfl 1 rfl (aM_29 C g33 dX12_later_33 (x_isub C dX12_later_34 (sM_25 C g35 dX12_later_35 (x_aload_n C dX12_later_36 rfl 0 rfl (gM_X12_39 C u_5_119 dX12_later_37 (x_bipush C dX12_later_40 kb_10 (x_iconst C dX12_later_42 kc_0 (sM_25 C g43 dX12_later_43 (x_aload_n C dX12_later_44 rfl 0 rfl (x_iload_n C dX12_later_45 rfl 2 rfl (x_callVv C (c_m_forces e46) k_X12_295 (ci := 12) (q0 := 0) rfl rfl (by decide) (Nat.le_of_ble_eq_true rfl) rfl dX12_later_46 (x_vret E h dX12_later_49))))))))))))))))))))))))))))))
set_option maxHeartbeats 4000000 in
theorem w_m_line_j71 {z : ZT} {ad : AD} {ek : EK} {lh : Launch} {Dh : va_G} {r : Int32} {S' : ST} (C : CX z ad ek cX12_line RX12 lh Dh 3 6) (E : EI z (cM ad) cX12_line (some .int) r S') {S : ST} {l1 : Int32} {l2 : Int32} {l3 : Int32} {l4 : Int32} {l5 : Int32} (h : m_line_j71 S l1 l2 l3 l4 l5 = some (r, S')) : XW z (cM ad) 71 [(0, .ref (ad.1 0)), (1, .int l1), (2, .int l2), (3, .int l3), (4, .int l4), (5, .int l5)] [] S := by
  unfold m_line_j71 at h
  obtain ⟨r82, S82, e82, h⟩ := cal_some h
  exact x_aload_n C dX12_line_71 rfl 0 rfl (x_iconst C dX12_line_72 kc_0 (x_iload_n C dX12_line_73 rfl 1 rfl (x_iload_n C dX12_line_74 rfl 2 rfl (x_iload_n C dX12_line_75 rfl 3 rfl (x_iload C dX12_line_76 4 rfl (x_iload C dX12_line_78 5 rfl (x_iconst C dX12_line_80 kc_m1 (x_iconst C dX12_line_81 kc_m1 (x_callVi C (c_m_tells e82) k_X12_310 (ci := 12) (q0 := 0) rfl rfl (by decide) (Nat.le_of_ble_eq_true rfl) rfl dX12_line_82 (x_iret E h retI dX12_line_85))))))))))
set_option maxHeartbeats 4000000 in
theorem w_m_line_j48 {z : ZT} {ad : AD} {ek : EK} {lh : Launch} {Dh : va_G} {r : Int32} {S' : ST} (C : CX z ad ek cX12_line RX12 lh Dh 3 6) (E : EI z (cM ad) cX12_line (some .int) r S') {S : ST} {l1 : Int32} {l2 : Int32} {l3 : Int32} {l4 : Int32} {l5 : Int32} (h : m_line_j48 S l1 l2 l3 l4 l5 = some (r, S')) : XW z (cM ad) 48 [(0, .ref (ad.1 0)), (1, .int l1), (2, .int l2), (3, .int l3), (4, .int l4), (5, .int l5)] [] S := by
  unfold m_line_j48 at h
  refine x_iload_n C dX12_line_48 rfl 3 rfl (x_iconst C dX12_line_49 kc_3 (x_icmp_ne C (tgt := 61) dX12_line_50 (by decide) (fun c => ?_) (fun c => ?_)))
  · have h := ite_f h c
    obtain ⟨r63, e63, h⟩ := cal0_some h
    refine x_iload C dX12_line_61 5 rfl (x_callSi C (c_m_isWord e63) k_X12_307 (by decide) (Nat.le_of_ble_eq_true rfl) rfl dX12_line_63 (x_if_ne C (tgt := 71) dX12_line_66 (by decide) (fun c => ?_) (fun c => ?_)))
    · have h := ite_f h c
      exact w_m_line_j71 C E h
    · have h := ite_t h c
      exact x_iconst C dX12_line_69 kc_m1 (x_iret E h retI dX12_line_70)
  · have h := ite_t h c
    refine x_iload C dX12_line_53 5 rfl (x_if_eq C (tgt := 71) dX12_line_55 (by decide) (fun c => ?_) (fun c => ?_))
    · have h := ite_t h c
      exact w_m_line_j71 C E h
    · have h := ite_f h c
      exact x_goto C (tgt := 69) dX12_line_58 (by decide) (x_iconst C dX12_line_69 kc_m1 (x_iret E h retI dX12_line_70))
set_option maxHeartbeats 4000000 in
theorem c_m_line {ad : AD} {ek : EK} {lh : Launch} {Dh : va_G} {r : Int32} {S' : ST}  {S : ST} {l1 : Int32} {l2 : Int32} {l3 : Int32} {l4 : Int32} {l5 : Int32} (h : m_line S l1 l2 l3 l4 l5 = some (r, S')) : MXi lh Dh ad ek (cM ad) yX12_line cX12_line 6 (some .int) 3 [.ref (ad.1 0), .int l1, .int l2, .int l3, .int l4, .int l5] S r S' := by
  refine mxi_of (by decide) (Nat.le_of_ble_eq_true rfl) (fun z C E => ?_)
  unfold m_line at h
  refine x_aload_n C dX12_line_0 rfl 0 rfl (gM_X12_45 C u_5_125 dX12_line_1 (x_sipush C dX12_line_4 ks_180 (x_icmp_eq C (tgt := 32) dX12_line_7 (by decide) (fun c => ?_) (fun c => ?_))))
  · have h := ite_t h c
    exact x_iconst C dX12_line_32 kc_m1 (x_iret E h retI dX12_line_33)
  · have h := ite_f h c
    obtain ⟨r11, e11, h⟩ := cal0_some h
    refine x_iload_n C dX12_line_10 rfl 1 rfl (x_callSi C (c_m_isDay e11) k_X12_292 (by decide) (Nat.le_of_ble_eq_true rfl) rfl dX12_line_11 (x_if_eq C (tgt := 32) dX12_line_14 (by decide) (fun c => ?_) (fun c => ?_)))
    · have h := ite_t h c
      exact x_iconst C dX12_line_32 kc_m1 (x_iret E h retI dX12_line_33)
    · have h := ite_f h c
      obtain ⟨r18, e18, h⟩ := cal0_some h
      refine x_iload_n C dX12_line_17 rfl 2 rfl (x_callSi C (c_m_isMinute e18) k_X12_301 (by decide) (Nat.le_of_ble_eq_true rfl) rfl dX12_line_18 (x_if_eq C (tgt := 32) dX12_line_21 (by decide) (fun c => ?_) (fun c => ?_)))
      · have h := ite_t h c
        exact x_iconst C dX12_line_32 kc_m1 (x_iret E h retI dX12_line_33)
      · have h := ite_f h c
        obtain ⟨r26, e26, h⟩ := cal0_some h
        refine x_iload C dX12_line_24 4 rfl (x_callSi C (c_m_isSeat e26) k_X12_304 (by decide) (Nat.le_of_ble_eq_true rfl) rfl dX12_line_26 (x_if_ne C (tgt := 34) dX12_line_29 (by decide) (fun c => ?_) (fun c => ?_)))
        · have h := ite_f h c
          refine x_iload_n C dX12_line_34 rfl 3 rfl (x_if_eq C (tgt := 48) dX12_line_35 (by decide) (fun c => ?_) (fun c => ?_))
          · have h := ite_t h c
            exact w_m_line_j48 C E h
          · have h := ite_f h c
            refine x_iload_n C dX12_line_38 rfl 3 rfl (x_iconst C dX12_line_39 kc_2 (x_icmp_eq C (tgt := 48) dX12_line_40 (by decide) (fun c => ?_) (fun c => ?_)))
            · have h := ite_t h c
              exact w_m_line_j48 C E h
            · have h := ite_f h c
              refine x_iload_n C dX12_line_43 rfl 3 rfl (x_iconst C dX12_line_44 kc_3 (x_icmp_ne C (tgt := 69) dX12_line_45 (by decide) (fun c => ?_) (fun c => ?_)))
              · have h := ite_f h c
                exact x_iconst C dX12_line_69 kc_m1 (x_iret E h retI dX12_line_70)
              · have h := ite_t h c
                exact w_m_line_j48 C E h
        · have h := ite_t h c
          exact x_iconst C dX12_line_32 kc_m1 (x_iret E h retI dX12_line_33)
set_option maxHeartbeats 4000000 in
theorem w_m_moved_j112 {z : ZT} {ad : AD} {ek : EK} {lh : Launch} {Dh : va_G} {r : Int32} {S' : ST} (C : CX z ad ek cX12_moved RX12 lh Dh 3 6) (E : EI z (cM ad) cX12_moved (some .int) r S') {Kb : ST → Int32 → Int32 → Option (Int32 × ST)} (hKb : ∀ (S : ST) (l1 : Int32) (l3 : Int32) , Kb S l1 l3 = some (r, S') → XW z (cM ad) 23 [(0, .ref (ad.1 0)), (1, .int l1), (3, .int l3)] [] S) {S : ST} {l1 : Int32} {l3 : Int32} (h : m_moved_j112 Kb S l1 l3 = some (r, S')) : XW z (cM ad) 112 [(0, .ref (ad.1 0)), (1, .int l1), (3, .int l3)] [] S := by
  unfold m_moved_j112 at h
  exact x_iinc C dX12_moved_112 2 rfl ki_m1 (by decide) rfl (x_goto C (tgt := 23) dX12_moved_115 (by decide) (x_perm [1, 2, 0] rfl (hKb _ _ _ h)))
set_option maxHeartbeats 4000000 in
theorem w_m_moved_j101 {z : ZT} {ad : AD} {ek : EK} {lh : Launch} {Dh : va_G} {r : Int32} {S' : ST} (C : CX z ad ek cX12_moved RX12 lh Dh 3 6) (E : EI z (cM ad) cX12_moved (some .int) r S') {Kb : ST → Int32 → Int32 → Option (Int32 × ST)} (hKb : ∀ (S : ST) (l1 : Int32) (l3 : Int32) , Kb S l1 l3 = some (r, S') → XW z (cM ad) 23 [(0, .ref (ad.1 0)), (1, .int l1), (3, .int l3)] [] S) {S : ST} {l1 : Int32} {l3 : Int32} {l4 : Int32} {s0 : Int32} (h : m_moved_j101 Kb S l1 l3 l4 s0 = some (r, S')) : XW z (cM ad) 101 [(0, .ref (ad.1 0)), (1, .int l1), (3, .int l3), (4, .int l4)] [.int s0] S := by
  unfold m_moved_j101 at h
  refine x_istore C dX12_moved_101 (by decide) rfl (x_iload C dX12_moved_103 4 rfl (x_iload C dX12_moved_105 0 rfl (x_icmp_eq C (tgt := 112) dX12_moved_107 (by decide) (fun c => ?_) (fun c => ?_))))
  · have h := ite_t h c
    exact x_perm [1, 2, 3] rfl (w_m_moved_j112 C E hKb h)
  · have h := ite_f h c
    exact (by
      exact x_iload_n C dX12_moved_110 rfl 3 rfl (x_iret E h retI dX12_moved_111))
set_option maxHeartbeats 4000000 in
theorem w_m_moved_j77 {z : ZT} {ad : AD} {ek : EK} {lh : Launch} {Dh : va_G} {r : Int32} {S' : ST} (C : CX z ad ek cX12_moved RX12 lh Dh 3 6) (E : EI z (cM ad) cX12_moved (some .int) r S') {Kb : ST → Int32 → Int32 → Option (Int32 × ST)} (hKb : ∀ (S : ST) (l1 : Int32) (l3 : Int32) , Kb S l1 l3 = some (r, S') → XW z (cM ad) 23 [(0, .ref (ad.1 0)), (1, .int l1), (3, .int l3)] [] S) {S : ST} {l1 : Int32} {l3 : Int32} {s0 : Int32} (h : m_moved_j77 Kb S l1 l3 s0 = some (r, S')) : XW z (cM ad) 77 [(0, .ref (ad.1 0)), (1, .int l1), (3, .int l3)] [.int s0] S := by
  unfold m_moved_j77 at h
  obtain ⟨r83, S83, e83, h⟩ := cal_some h
  obtain ⟨r90, S90, e90, h⟩ := cal_some h
  refine x_istore C dX12_moved_77 (by decide) rfl (x_aload_n C dX12_moved_79 rfl 1 rfl (x_iload_n C dX12_moved_80 rfl 2 rfl (x_iconst C dX12_moved_81 kc_0 (x_iload_n C dX12_moved_82 rfl 3 rfl (x_callVi C (c_m_sumOf e83) k_X12_400 (ci := 12) (q0 := 0) rfl rfl (by decide) (Nat.le_of_ble_eq_true rfl) rfl dX12_moved_83 (x_aload_n C dX12_moved_86 rfl 1 rfl (x_iload_n C dX12_moved_87 rfl 2 rfl (x_iconst C dX12_moved_88 kc_1 (x_iload_n C dX12_moved_89 rfl 3 rfl (x_callVi C (c_m_sumOf e90) k_X12_400 (ci := 12) (q0 := 0) rfl rfl (by decide) (Nat.le_of_ble_eq_true rfl) rfl dX12_moved_90 (x_icmp_le C (tgt := 100) dX12_moved_93 (by decide) (fun c => ?_) (fun c => ?_))))))))))))
  · have h := ite_t h c
    exact x_iconst C dX12_moved_100 kc_0 (x_perm [1, 2, 3, 0] rfl (w_m_moved_j101 C E hKb h))
  · have h := ite_f h c
    exact x_iconst C dX12_moved_96 kc_1 (x_goto C (tgt := 101) dX12_moved_97 (by decide) (x_perm [1, 2, 3, 0] rfl (w_m_moved_j101 C E hKb h)))
set_option maxHeartbeats 4000000 in
theorem w_m_moved_h23 {z : ZT} {ad : AD} {ek : EK} {lh : Launch} {Dh : va_G} {r : Int32} {S' : ST} (C : CX z ad ek cX12_moved RX12 lh Dh 3 6) (E : EI z (cM ad) cX12_moved (some .int) r S') : ∀ (n : Nat) (S : ST) (l1 : Int32) (l3 : Int32), m_moved_h23 n S l1 l3 = some (r, S') → XW z (cM ad) 23 [(0, .ref (ad.1 0)), (1, .int l1), (3, .int l3)] [] S := by
  intro n
  induction n with
  | zero => intro S l1 l3 h; cases h
  | succ n ih =>
    intro S l1 l3 h
    have hKb := ih
    refine x_iload_n C dX12_moved_23 rfl 2 rfl (x_if_lt C (tgt := 118) dX12_moved_24 (by decide) (fun c => ?_) (fun c => ?_))
    · have h := ite_t h c
      exact (by
        exact x_bipush C dX12_moved_118 kb_m2 (x_iret E h retI dX12_moved_120))
    · have h := ite_f h c
      obtain ⟨g32, h⟩ := G_some h
      refine x_aload_n C dX12_moved_27 rfl 0 rfl (gM_X12_46 C u_5_126 dX12_moved_28 (x_iload_n C dX12_moved_31 rfl 2 rfl (aM_28 C g32 dX12_moved_32 (x_bipush C dX12_moved_33 kb_9 (x_icmp_ne C (tgt := 112) dX12_moved_35 (by decide) (fun c => ?_) (fun c => ?_))))))
      · have h := ite_f h c
        exact w_m_moved_j112 C E hKb h
      · have h := ite_t h c
        obtain ⟨g43, h⟩ := G_some h
        refine x_aload_n C dX12_moved_38 rfl 0 rfl (gM_X12_48 C u_5_128 dX12_moved_39 (x_iload_n C dX12_moved_42 rfl 2 rfl (aM_30 C g43 dX12_moved_43 (x_iload_n C dX12_moved_44 rfl 1 rfl (x_icmp_eq C (tgt := 51) dX12_moved_45 (by decide) (fun c => ?_) (fun c => ?_))))))
        · have h := ite_t h c
          obtain ⟨r57, S57, e57, h⟩ := cal_some h
          obtain ⟨r66, S66, e66, h⟩ := cal_some h
          refine x_aload_n C dX12_moved_51 rfl 0 rfl (x_iload_n C dX12_moved_52 rfl 1 rfl (x_iconst C dX12_moved_53 kc_0 (x_iload_n C dX12_moved_54 rfl 2 rfl (x_iconst C dX12_moved_55 kc_1 (x_iadd C dX12_moved_56 (x_callVi C (c_m_sumOf e57) k_X12_400 (ci := 12) (q0 := 0) rfl rfl (by decide) (Nat.le_of_ble_eq_true rfl) rfl dX12_moved_57 (x_aload_n C dX12_moved_60 rfl 0 rfl (x_iload_n C dX12_moved_61 rfl 1 rfl (x_iconst C dX12_moved_62 kc_1 (x_iload_n C dX12_moved_63 rfl 2 rfl (x_iconst C dX12_moved_64 kc_1 (x_iadd C dX12_moved_65 (x_callVi C (c_m_sumOf e66) k_X12_400 (ci := 12) (q0 := 0) rfl rfl (by decide) (Nat.le_of_ble_eq_true rfl) rfl dX12_moved_66 (x_icmp_le C (tgt := 76) dX12_moved_69 (by decide) (fun c => ?_) (fun c => ?_)))))))))))))))
          · have h := ite_t h c
            exact x_iconst C dX12_moved_76 kc_0 (w_m_moved_j77 C E hKb h)
          · have h := ite_f h c
            exact x_iconst C dX12_moved_72 kc_1 (x_goto C (tgt := 77) dX12_moved_73 (by decide) (w_m_moved_j77 C E hKb h))
        · have h := ite_f h c
          exact x_goto C (tgt := 112) dX12_moved_48 (by decide) (w_m_moved_j112 C E hKb h)
set_option maxHeartbeats 4000000 in
theorem c_m_moved {ad : AD} {ek : EK} {lh : Launch} {Dh : va_G} {r : Int32} {S' : ST}  {S : ST} {l1 : Int32} {l2 : Int32} (h : m_moved S l1 l2 = some (r, S')) : MXi lh Dh ad ek (cM ad) yX12_moved cX12_moved 6 (some .int) 3 [.ref (ad.1 0), .int l1, .int l2] S r S' := by
  refine mxi_of (by decide) (Nat.le_of_ble_eq_true rfl) (fun z C E => ?_)
  unfold m_moved at h
  obtain ⟨r3, e3, h⟩ := cal0_some h
  refine x_iload_n C dX12_moved_0 rfl 1 rfl (x_iconst C dX12_moved_1 kc_0 (x_iconst C dX12_moved_2 kc_3 (x_callSi C (c_m_in e3) k_X12_288 (by decide) (Nat.le_of_ble_eq_true rfl) rfl dX12_moved_3 (x_if_eq C (tgt := 17) dX12_moved_6 (by decide) (fun c => ?_) (fun c => ?_)))))
  · have h := ite_t h c
    exact x_iconst C dX12_moved_17 kc_m1 (x_iret E h retI dX12_moved_18)
  · have h := ite_f h c
    obtain ⟨r11, S11, e11, h⟩ := cal_some h
    refine x_aload_n C dX12_moved_9 rfl 0 rfl (x_iload_n C dX12_moved_10 rfl 2 rfl (x_callVi C (c_m_isKnown e11) k_X12_325 (ci := 12) (q0 := 0) rfl rfl (by decide) (Nat.le_of_ble_eq_true rfl) rfl dX12_moved_11 (x_if_ne C (tgt := 19) dX12_moved_14 (by decide) (fun c => ?_) (fun c => ?_))))
    · have h := ite_f h c
      exact x_iload_n C dX12_moved_19 rfl 2 rfl (x_iconst C dX12_moved_20 kc_1 (x_isub C dX12_moved_21 (x_istore_n C dX12_moved_22 rfl (by decide) rfl (x_perm [1, 2, 0] rfl (w_m_moved_h23 C E FU _ _ _ h)))))
    · have h := ite_t h c
      exact x_iconst C dX12_moved_17 kc_m1 (x_iret E h retI dX12_moved_18)
set_option maxHeartbeats 4000000 in
theorem c_m_must {ad : AD} {ek : EK} {lh : Launch} {Dh : va_G} {S' : ST}  {S : ST} {l1 : Int32} (h : m_must S l1 = some S') : MXv lh Dh ad ek (cM ad) yX12_must cX12_must 2 none 3 [.ref (ad.1 0), .int l1] S S' := by
  refine mxv_of (by decide) (Nat.le_of_ble_eq_true rfl) (fun z C E => ?_)
  unfold m_must at h
  obtain ⟨r2, S2, e2, h⟩ := cal_some h
  refine x_aload_n C dX12_must_0 rfl 0 rfl (x_iload_n C dX12_must_1 rfl 1 rfl (x_callVi C (c_m_is e2) k_X12_215 (ci := 12) (q0 := 0) rfl rfl (by decide) (Nat.le_of_ble_eq_true rfl) rfl dX12_must_2 (x_if_eq C (tgt := 15) dX12_must_5 (by decide) (fun c => ?_) (fun c => ?_))))
  · have h := ite_t h c
    obtain ⟨S17, e17, h⟩ := calV_some h
    exact x_aload_n C dX12_must_15 rfl 0 rfl (x_iconst C dX12_must_16 kc_1 (x_callVv C (c_m_fail e17) k_X12_212 (ci := 12) (q0 := 0) rfl rfl (by decide) (Nat.le_of_ble_eq_true rfl) rfl dX12_must_17 (x_vret E h dX12_must_20)))
  · have h := ite_f h c
    obtain ⟨S9, e9, h⟩ := calV_some h
    exact x_aload_n C dX12_must_8 rfl 0 rfl (x_callVv C (c_m_next e9) k_X12_218 (ci := 12) (q0 := 0) rfl rfl (by decide) (Nat.le_of_ble_eq_true rfl) rfl dX12_must_9 (x_goto C (tgt := 20) dX12_must_12 (by decide) (x_vret E h dX12_must_20)))
set_option maxHeartbeats 4000000 in
theorem c_m_office {ad : AD} {ek : EK} {lh : Launch} {Dh : va_G} {r : Int32} {S' : ST}  {S : ST} {l1 : Int32} {l2 : Int32} (h : m_office S l1 l2 = some (r, S')) : MXi lh Dh ad ek (cM ad) yX12_office cX12_office 3 (some .int) 3 [.ref (ad.1 0), .int l1, .int l2] S r S' := by
  refine mxi_of (by decide) (Nat.le_of_ble_eq_true rfl) (fun z C E => ?_)
  unfold m_office at h
  refine x_aload_n C dX12_office_0 rfl 0 rfl (gM_X12_45 C u_5_125 dX12_office_1 (x_sipush C dX12_office_4 ks_180 (x_icmp_eq C (tgt := 27) dX12_office_7 (by decide) (fun c => ?_) (fun c => ?_))))
  · have h := ite_t h c
    exact x_iconst C dX12_office_27 kc_m1 (x_goto C (tgt := 43) dX12_office_28 (by decide) (x_iret E h retI dX12_office_43))
  · have h := ite_f h c
    obtain ⟨r11, e11, h⟩ := cal0_some h
    refine x_iload_n C dX12_office_10 rfl 1 rfl (x_callSi C (c_m_isMember e11) k_X12_314 (by decide) (Nat.le_of_ble_eq_true rfl) rfl dX12_office_11 (x_if_eq C (tgt := 27) dX12_office_14 (by decide) (fun c => ?_) (fun c => ?_)))
    · have h := ite_t h c
      exact x_iconst C dX12_office_27 kc_m1 (x_goto C (tgt := 43) dX12_office_28 (by decide) (x_iret E h retI dX12_office_43))
    · have h := ite_f h c
      obtain ⟨r21, e21, h⟩ := cal0_some h
      refine x_iload_n C dX12_office_17 rfl 2 rfl (x_iconst C dX12_office_18 kc_0 (x_bipush C dX12_office_19 kb_9 (x_callSi C (c_m_in e21) k_X12_288 (by decide) (Nat.le_of_ble_eq_true rfl) rfl dX12_office_21 (x_if_ne C (tgt := 31) dX12_office_24 (by decide) (fun c => ?_) (fun c => ?_)))))
      · have h := ite_f h c
        obtain ⟨r40, S40, e40, h⟩ := cal_some h
        exact x_aload_n C dX12_office_31 rfl 0 rfl (x_iconst C dX12_office_32 kc_2 (x_iconst C dX12_office_33 kc_m1 (x_iload_n C dX12_office_34 rfl 1 rfl (x_iload_n C dX12_office_35 rfl 2 rfl (x_iconst C dX12_office_36 kc_0 (x_iconst C dX12_office_37 kc_0 (x_iconst C dX12_office_38 kc_0 (x_iconst C dX12_office_39 kc_0 (x_callVi C (c_m_tells e40) k_X12_310 (ci := 12) (q0 := 0) rfl rfl (by decide) (Nat.le_of_ble_eq_true rfl) rfl dX12_office_40 (x_iret E h retI dX12_office_43))))))))))
      · have h := ite_t h c
        exact x_iconst C dX12_office_27 kc_m1 (x_goto C (tgt := 43) dX12_office_28 (by decide) (x_iret E h retI dX12_office_43))
set_option maxHeartbeats 4000000 in
theorem c_m_reads {ad : AD} {ek : EK} {lh : Launch} {Dh : va_G} {r : Int32} {S' : ST}  {S : ST} {l1 : Int32} {l2 : Int32} {l3 : Int32} {l4 : Int32} {l5 : Int32} {l6 : Int32} (h : m_reads S l1 l2 l3 l4 l5 l6 = some (r, S')) : MXi lh Dh ad ek (cM ad) yX12_reads cX12_reads 7 (some .int) 3 [.ref (ad.1 0), .int l1, .int l2, .int l3, .int l4, .int l5, .int l6] S r S' := by
  refine mxi_of (by decide) (Nat.le_of_ble_eq_true rfl) (fun z C E => ?_)
  unfold m_reads at h
  refine x_aload_n C dX12_reads_0 rfl 0 rfl (gM_X12_45 C u_5_125 dX12_reads_1 (x_sipush C dX12_reads_4 ks_180 (x_icmp_eq C (tgt := 60) dX12_reads_7 (by decide) (fun c => ?_) (fun c => ?_))))
  · have h := ite_t h c
    exact x_iconst C dX12_reads_60 kc_m1 (x_iret E h retI dX12_reads_61)
  · have h := ite_f h c
    obtain ⟨r11, e11, h⟩ := cal0_some h
    refine x_iload_n C dX12_reads_10 rfl 1 rfl (x_callSi C (c_m_isDay e11) k_X12_292 (by decide) (Nat.le_of_ble_eq_true rfl) rfl dX12_reads_11 (x_if_eq C (tgt := 60) dX12_reads_14 (by decide) (fun c => ?_) (fun c => ?_)))
    · have h := ite_t h c
      exact x_iconst C dX12_reads_60 kc_m1 (x_iret E h retI dX12_reads_61)
    · have h := ite_f h c
      obtain ⟨r18, e18, h⟩ := cal0_some h
      refine x_iload_n C dX12_reads_17 rfl 2 rfl (x_callSi C (c_m_isMinute e18) k_X12_301 (by decide) (Nat.le_of_ble_eq_true rfl) rfl dX12_reads_18 (x_if_eq C (tgt := 60) dX12_reads_21 (by decide) (fun c => ?_) (fun c => ?_)))
      · have h := ite_t h c
        exact x_iconst C dX12_reads_60 kc_m1 (x_iret E h retI dX12_reads_61)
      · have h := ite_f h c
        obtain ⟨r25, e25, h⟩ := cal0_some h
        refine x_iload_n C dX12_reads_24 rfl 3 rfl (x_callSi C (c_m_isSeat e25) k_X12_304 (by decide) (Nat.le_of_ble_eq_true rfl) rfl dX12_reads_25 (x_if_eq C (tgt := 60) dX12_reads_28 (by decide) (fun c => ?_) (fun c => ?_)))
        · have h := ite_t h c
          exact x_iconst C dX12_reads_60 kc_m1 (x_iret E h retI dX12_reads_61)
        · have h := ite_f h c
          obtain ⟨r33, e33, h⟩ := cal0_some h
          refine x_iload C dX12_reads_31 4 rfl (x_callSi C (c_m_isWord e33) k_X12_307 (by decide) (Nat.le_of_ble_eq_true rfl) rfl dX12_reads_33 (x_if_eq C (tgt := 60) dX12_reads_36 (by decide) (fun c => ?_) (fun c => ?_)))
          · have h := ite_t h c
            exact x_iconst C dX12_reads_60 kc_m1 (x_iret E h retI dX12_reads_61)
          · have h := ite_f h c
            obtain ⟨r43, e43, h⟩ := cal0_some h
            refine x_iload C dX12_reads_39 5 rfl (x_iconst C dX12_reads_41 kc_0 (x_iconst C dX12_reads_42 kc_3 (x_callSi C (c_m_in e43) k_X12_288 (by decide) (Nat.le_of_ble_eq_true rfl) rfl dX12_reads_43 (x_if_eq C (tgt := 60) dX12_reads_46 (by decide) (fun c => ?_) (fun c => ?_)))))
            · have h := ite_t h c
              exact x_iconst C dX12_reads_60 kc_m1 (x_iret E h retI dX12_reads_61)
            · have h := ite_f h c
              obtain ⟨r54, e54, h⟩ := cal0_some h
              refine x_iload C dX12_reads_49 6 rfl (x_iconst C dX12_reads_51 kc_0 (x_bipush C dX12_reads_52 kb_9 (x_callSi C (c_m_in e54) k_X12_288 (by decide) (Nat.le_of_ble_eq_true rfl) rfl dX12_reads_54 (x_if_ne C (tgt := 62) dX12_reads_57 (by decide) (fun c => ?_) (fun c => ?_)))))
              · have h := ite_f h c
                obtain ⟨r74, S74, e74, h⟩ := cal_some h
                exact x_aload_n C dX12_reads_62 rfl 0 rfl (x_iconst C dX12_reads_63 kc_0 (x_iload_n C dX12_reads_64 rfl 1 rfl (x_iload_n C dX12_reads_65 rfl 2 rfl (x_iconst C dX12_reads_66 kc_1 (x_iload_n C dX12_reads_67 rfl 3 rfl (x_iload C dX12_reads_68 4 rfl (x_iload C dX12_reads_70 5 rfl (x_iload C dX12_reads_72 6 rfl (x_callVi C (c_m_tells e74) k_X12_310 (ci := 12) (q0 := 0) rfl rfl (by decide) (Nat.le_of_ble_eq_true rfl) rfl dX12_reads_74 (x_iret E h retI dX12_reads_77))))))))))
              · have h := ite_t h c
                exact x_iconst C dX12_reads_60 kc_m1 (x_iret E h retI dX12_reads_61)
set_option maxHeartbeats 4000000 in
theorem c_m_rename {ad : AD} {ek : EK} {lh : Launch} {Dh : va_G} {r : Int32} {S' : ST}  {S : ST} {l1 : Int32} {l2 : Int32} {l3 : Int32} (h : m_rename S l1 l2 l3 = some (r, S')) : MXi lh Dh ad ek (cM ad) yX12_rename cX12_rename 4 (some .int) 3 [.ref (ad.1 0), .int l1, .int l2, .int l3] S r S' := by
  refine mxi_of (by decide) (Nat.le_of_ble_eq_true rfl) (fun z C E => ?_)
  unfold m_rename at h
  refine x_aload_n C dX12_rename_0 rfl 0 rfl (gM_X12_45 C u_5_125 dX12_rename_1 (x_sipush C dX12_rename_4 ks_180 (x_icmp_eq C (tgt := 36) dX12_rename_7 (by decide) (fun c => ?_) (fun c => ?_))))
  · have h := ite_t h c
    exact x_iconst C dX12_rename_36 kc_m1 (x_goto C (tgt := 53) dX12_rename_37 (by decide) (x_iret E h retI dX12_rename_53))
  · have h := ite_f h c
    obtain ⟨r11, e11, h⟩ := cal0_some h
    refine x_iload_n C dX12_rename_10 rfl 1 rfl (x_callSi C (c_m_isWord e11) k_X12_307 (by decide) (Nat.le_of_ble_eq_true rfl) rfl dX12_rename_11 (x_if_eq C (tgt := 36) dX12_rename_14 (by decide) (fun c => ?_) (fun c => ?_)))
    · have h := ite_t h c
      exact x_iconst C dX12_rename_36 kc_m1 (x_goto C (tgt := 53) dX12_rename_37 (by decide) (x_iret E h retI dX12_rename_53))
    · have h := ite_f h c
      obtain ⟨r18, e18, h⟩ := cal0_some h
      refine x_iload_n C dX12_rename_17 rfl 2 rfl (x_callSi C (c_m_isWord e18) k_X12_307 (by decide) (Nat.le_of_ble_eq_true rfl) rfl dX12_rename_18 (x_if_eq C (tgt := 36) dX12_rename_21 (by decide) (fun c => ?_) (fun c => ?_)))
      · have h := ite_t h c
        exact x_iconst C dX12_rename_36 kc_m1 (x_goto C (tgt := 53) dX12_rename_37 (by decide) (x_iret E h retI dX12_rename_53))
      · have h := ite_f h c
        refine x_iload_n C dX12_rename_24 rfl 1 rfl (x_iload_n C dX12_rename_25 rfl 2 rfl (x_icmp_eq C (tgt := 36) dX12_rename_26 (by decide) (fun c => ?_) (fun c => ?_)))
        · have h := ite_t h c
          exact x_iconst C dX12_rename_36 kc_m1 (x_goto C (tgt := 53) dX12_rename_37 (by decide) (x_iret E h retI dX12_rename_53))
        · have h := ite_f h c
          obtain ⟨r30, e30, h⟩ := cal0_some h
          refine x_iload_n C dX12_rename_29 rfl 3 rfl (x_callSi C (c_m_isDay e30) k_X12_292 (by decide) (Nat.le_of_ble_eq_true rfl) rfl dX12_rename_30 (x_if_ne C (tgt := 40) dX12_rename_33 (by decide) (fun c => ?_) (fun c => ?_)))
          · have h := ite_f h c
            obtain ⟨r50, S50, e50, h⟩ := cal_some h
            exact x_aload_n C dX12_rename_40 rfl 0 rfl (x_bipush C dX12_rename_41 kb_8 (x_iload_n C dX12_rename_43 rfl 3 rfl (x_iload_n C dX12_rename_44 rfl 1 rfl (x_iload_n C dX12_rename_45 rfl 2 rfl (x_iconst C dX12_rename_46 kc_0 (x_iconst C dX12_rename_47 kc_0 (x_iconst C dX12_rename_48 kc_0 (x_iconst C dX12_rename_49 kc_0 (x_callVi C (c_m_tells e50) k_X12_310 (ci := 12) (q0 := 0) rfl rfl (by decide) (Nat.le_of_ble_eq_true rfl) rfl dX12_rename_50 (x_iret E h retI dX12_rename_53))))))))))
          · have h := ite_t h c
            exact x_iconst C dX12_rename_36 kc_m1 (x_goto C (tgt := 53) dX12_rename_37 (by decide) (x_iret E h retI dX12_rename_53))
set_option maxHeartbeats 4000000 in
theorem c_m_rule {ad : AD} {ek : EK} {lh : Launch} {Dh : va_G} {r : Int32} {S' : ST}  {S : ST} {l1 : Int32} {l2 : Int32} {l3 : Int32} (h : m_rule S l1 l2 l3 = some (r, S')) : MXi lh Dh ad ek (cM ad) yX12_rule cX12_rule 4 (some .int) 3 [.ref (ad.1 0), .int l1, .int l2, .int l3] S r S' := by
  refine mxi_of (by decide) (Nat.le_of_ble_eq_true rfl) (fun z C E => ?_)
  unfold m_rule at h
  obtain ⟨r1, e1, h⟩ := cal0_some h
  refine x_iload_n C dX12_rule_0 rfl 1 rfl (x_callSi C (c_m_isDay e1) k_X12_292 (by decide) (Nat.le_of_ble_eq_true rfl) rfl dX12_rule_1 (x_if_ne C (tgt := 9) dX12_rule_4 (by decide) (fun c => ?_) (fun c => ?_)))
  · have h := ite_f h c
    obtain ⟨S11, e11, h⟩ := calV_some h
    refine x_aload_n C dX12_rule_9 rfl 0 rfl (x_iload_n C dX12_rule_10 rfl 1 rfl (x_callVv C (c_m_forces e11) k_X12_295 (ci := 12) (q0 := 0) rfl rfl (by decide) (Nat.le_of_ble_eq_true rfl) rfl dX12_rule_11 (x_iload_n C dX12_rule_14 rfl 2 rfl (x_if_lt C (tgt := 26) dX12_rule_15 (by decide) (fun c => ?_) (fun c => ?_)))))
    · have h := ite_t h c
      exact x_iconst C dX12_rule_26 kc_m1 (x_iret E h retI dX12_rule_27)
    · have h := ite_f h c
      refine x_iload_n C dX12_rule_18 rfl 2 rfl (x_aload_n C dX12_rule_19 rfl 0 rfl (gM_X12_43 C u_5_123 dX12_rule_20 (x_icmp_lt C (tgt := 28) dX12_rule_23 (by decide) (fun c => ?_) (fun c => ?_))))
      · have h := ite_t h c
        refine x_iload_n C dX12_rule_28 rfl 3 rfl (x_if_ne C (tgt := 46) dX12_rule_29 (by decide) (fun c => ?_) (fun c => ?_))
        · have h := ite_f h c
          refine x_iload_n C dX12_rule_46 rfl 3 rfl (x_iconst C dX12_rule_47 kc_1 (x_icmp_ne C (tgt := 63) dX12_rule_48 (by decide) (fun c => ?_) (fun c => ?_)))
          · have h := ite_f h c
            refine x_iload_n C dX12_rule_63 rfl 3 rfl (x_iconst C dX12_rule_64 kc_2 (x_icmp_ne C (tgt := 80) dX12_rule_65 (by decide) (fun c => ?_) (fun c => ?_)))
            · have h := ite_f h c
              exact x_iconst C dX12_rule_80 kc_m1 (x_iret E h retI dX12_rule_81)
            · have h := ite_t h c
              obtain ⟨g73, h⟩ := G_some h
              exact x_aload_n C dX12_rule_68 rfl 0 rfl (gM_X12_44 C u_5_124 dX12_rule_69 (x_iload_n C dX12_rule_72 rfl 2 rfl (aM_27 C g73 dX12_rule_73 (x_bipush C dX12_rule_74 kb_24 (x_irem C dX12_rule_76 (by decide) (x_goto C (tgt := 81) dX12_rule_77 (by decide) (x_iret E h retI dX12_rule_81)))))))
          · have h := ite_t h c
            obtain ⟨g56, h⟩ := G_some h
            exact x_aload_n C dX12_rule_51 rfl 0 rfl (gM_X12_44 C u_5_124 dX12_rule_52 (x_iload_n C dX12_rule_55 rfl 2 rfl (aM_27 C g56 dX12_rule_56 (x_bipush C dX12_rule_57 kb_24 (x_idiv C dX12_rule_59 (by decide) (x_goto C (tgt := 81) dX12_rule_60 (by decide) (x_iret E h retI dX12_rule_81)))))))
        · have h := ite_t h c
          obtain ⟨g41, h⟩ := G_some h
          obtain ⟨g42, h⟩ := G_some h
          exact x_aload_n C dX12_rule_32 rfl 0 rfl (gM_X12_21 C u_5_101 dX12_rule_33 (x_aload_n C dX12_rule_36 rfl 0 rfl (gM_X12_44 C u_5_124 dX12_rule_37 (x_iload_n C dX12_rule_40 rfl 2 rfl (aM_27 C g41 dX12_rule_41 (aM_10 C g42 dX12_rule_42 (x_goto C (tgt := 81) dX12_rule_43 (by decide) (x_iret E h retI dX12_rule_81))))))))
      · have h := ite_f h c
        exact x_iconst C dX12_rule_26 kc_m1 (x_iret E h retI dX12_rule_27)
  · have h := ite_t h c
    exact x_iconst C dX12_rule_7 kc_m1 (x_iret E h retI dX12_rule_8)
set_option maxHeartbeats 4000000 in
theorem c_m_rules {ad : AD} {ek : EK} {lh : Launch} {Dh : va_G} {r : Int32} {S' : ST}  {S : ST} {l1 : Int32} (h : m_rules S l1 = some (r, S')) : MXi lh Dh ad ek (cM ad) yX12_rules cX12_rules 2 (some .int) 3 [.ref (ad.1 0), .int l1] S r S' := by
  refine mxi_of (by decide) (Nat.le_of_ble_eq_true rfl) (fun z C E => ?_)
  unfold m_rules at h
  obtain ⟨r1, e1, h⟩ := cal0_some h
  refine x_iload_n C dX12_rules_0 rfl 1 rfl (x_callSi C (c_m_isDay e1) k_X12_292 (by decide) (Nat.le_of_ble_eq_true rfl) rfl dX12_rules_1 (x_if_ne C (tgt := 9) dX12_rules_4 (by decide) (fun c => ?_) (fun c => ?_)))
  · have h := ite_f h c
    obtain ⟨S11, e11, h⟩ := calV_some h
    exact x_aload_n C dX12_rules_9 rfl 0 rfl (x_iload_n C dX12_rules_10 rfl 1 rfl (x_callVv C (c_m_forces e11) k_X12_295 (ci := 12) (q0 := 0) rfl rfl (by decide) (Nat.le_of_ble_eq_true rfl) rfl dX12_rules_11 (x_aload_n C dX12_rules_14 rfl 0 rfl (gM_X12_43 C u_5_123 dX12_rules_15 (x_iret E h retI dX12_rules_18)))))
  · have h := ite_t h c
    exact x_iconst C dX12_rules_7 kc_m1 (x_iret E h retI dX12_rules_8)
set_option maxHeartbeats 4000000 in
theorem c_m_same {ad : AD} {ek : EK} {lh : Launch} {Dh : va_G} {r : Int32} {S' : ST}  {S : ST} {l1 : Int32} {l2 : Int32} {l3 : Int32} {l4 : Int32} (h : m_same S l1 l2 l3 l4 = some (r, S')) : MXi lh Dh ad ek (cM ad) yX12_same cX12_same 5 (some .int) 3 [.ref (ad.1 0), .int l1, .int l2, .int l3, .int l4] S r S' := by
  refine mxi_of (by decide) (Nat.le_of_ble_eq_true rfl) (fun z C E => ?_)
  unfold m_same at h
  obtain ⟨r1, e1, h⟩ := cal0_some h
  refine x_iload_n C dX12_same_0 rfl 1 rfl (x_callSi C (c_m_isWord e1) k_X12_307 (by decide) (Nat.le_of_ble_eq_true rfl) rfl dX12_same_1 (x_if_eq C (tgt := 30) dX12_same_4 (by decide) (fun c => ?_) (fun c => ?_)))
  · have h := ite_t h c
    exact x_iconst C dX12_same_30 kc_m1 (x_iret E h retI dX12_same_31)
  · have h := ite_f h c
    obtain ⟨r8, e8, h⟩ := cal0_some h
    refine x_iload_n C dX12_same_7 rfl 2 rfl (x_callSi C (c_m_isWord e8) k_X12_307 (by decide) (Nat.le_of_ble_eq_true rfl) rfl dX12_same_8 (x_if_eq C (tgt := 30) dX12_same_11 (by decide) (fun c => ?_) (fun c => ?_)))
    · have h := ite_t h c
      exact x_iconst C dX12_same_30 kc_m1 (x_iret E h retI dX12_same_31)
    · have h := ite_f h c
      obtain ⟨r15, e15, h⟩ := cal0_some h
      refine x_iload_n C dX12_same_14 rfl 3 rfl (x_callSi C (c_m_isDay e15) k_X12_292 (by decide) (Nat.le_of_ble_eq_true rfl) rfl dX12_same_15 (x_if_eq C (tgt := 30) dX12_same_18 (by decide) (fun c => ?_) (fun c => ?_)))
      · have h := ite_t h c
        exact x_iconst C dX12_same_30 kc_m1 (x_iret E h retI dX12_same_31)
      · have h := ite_f h c
        obtain ⟨r24, S24, e24, h⟩ := cal_some h
        refine x_aload_n C dX12_same_21 rfl 0 rfl (x_iload C dX12_same_22 4 rfl (x_callVi C (c_m_isKnown e24) k_X12_325 (ci := 12) (q0 := 0) rfl rfl (by decide) (Nat.le_of_ble_eq_true rfl) rfl dX12_same_24 (x_if_ne C (tgt := 32) dX12_same_27 (by decide) (fun c => ?_) (fun c => ?_))))
        · have h := ite_f h c
          obtain ⟨S37, e37, h⟩ := calV_some h
          obtain ⟨g45, h⟩ := G_some h
          refine x_aload_n C dX12_same_32 rfl 0 rfl (x_iload_n C dX12_same_33 rfl 1 rfl (x_iload_n C dX12_same_34 rfl 3 rfl (x_iload C dX12_same_35 4 rfl (x_callVv C (c_m_sames e37) k_X12_409 (ci := 12) (q0 := 0) rfl rfl (by decide) (Nat.le_of_ble_eq_true rfl) rfl dX12_same_37 (x_aload_n C dX12_same_40 rfl 0 rfl (gM_X12_70 C u_5_150 dX12_same_41 (x_iload_n C dX12_same_44 rfl 2 rfl (aM_44 C g45 dX12_same_45 (x_if_eq C (tgt := 53) dX12_same_46 (by decide) (fun c => ?_) (fun c => ?_))))))))))
          · have h := ite_t h c
            exact x_iconst C dX12_same_53 kc_0 (x_iret E h retI dX12_same_54)
          · have h := ite_f h c
            exact x_iconst C dX12_same_49 kc_1 (x_goto C (tgt := 54) dX12_same_50 (by decide) (x_iret E h retI dX12_same_54))
        · have h := ite_t h c
          exact x_iconst C dX12_same_30 kc_m1 (x_iret E h retI dX12_same_31)
set_option maxHeartbeats 4000000 in
theorem c_m_sits {ad : AD} {ek : EK} {lh : Launch} {Dh : va_G} {r : Int32} {S' : ST}  {S : ST} {l1 : Int32} {l2 : Int32} {l3 : Int32} (h : m_sits S l1 l2 l3 = some (r, S')) : MXi lh Dh ad ek (cM ad) yX12_sits cX12_sits 4 (some .int) 3 [.ref (ad.1 0), .int l1, .int l2, .int l3] S r S' := by
  refine mxi_of (by decide) (Nat.le_of_ble_eq_true rfl) (fun z C E => ?_)
  unfold m_sits at h
  refine x_aload_n C dX12_sits_0 rfl 0 rfl (gM_X12_45 C u_5_125 dX12_sits_1 (x_sipush C dX12_sits_4 ks_180 (x_icmp_eq C (tgt := 31) dX12_sits_7 (by decide) (fun c => ?_) (fun c => ?_))))
  · have h := ite_t h c
    exact x_iconst C dX12_sits_31 kc_m1 (x_goto C (tgt := 47) dX12_sits_32 (by decide) (x_iret E h retI dX12_sits_47))
  · have h := ite_f h c
    obtain ⟨r11, e11, h⟩ := cal0_some h
    refine x_iload_n C dX12_sits_10 rfl 1 rfl (x_callSi C (c_m_isMember e11) k_X12_314 (by decide) (Nat.le_of_ble_eq_true rfl) rfl dX12_sits_11 (x_if_eq C (tgt := 31) dX12_sits_14 (by decide) (fun c => ?_) (fun c => ?_)))
    · have h := ite_t h c
      exact x_iconst C dX12_sits_31 kc_m1 (x_goto C (tgt := 47) dX12_sits_32 (by decide) (x_iret E h retI dX12_sits_47))
    · have h := ite_f h c
      obtain ⟨r18, e18, h⟩ := cal0_some h
      refine x_iload_n C dX12_sits_17 rfl 2 rfl (x_callSi C (c_m_isSeat e18) k_X12_304 (by decide) (Nat.le_of_ble_eq_true rfl) rfl dX12_sits_18 (x_if_eq C (tgt := 31) dX12_sits_21 (by decide) (fun c => ?_) (fun c => ?_)))
      · have h := ite_t h c
        exact x_iconst C dX12_sits_31 kc_m1 (x_goto C (tgt := 47) dX12_sits_32 (by decide) (x_iret E h retI dX12_sits_47))
      · have h := ite_f h c
        obtain ⟨r25, e25, h⟩ := cal0_some h
        refine x_iload_n C dX12_sits_24 rfl 3 rfl (x_callSi C (c_m_isDay e25) k_X12_292 (by decide) (Nat.le_of_ble_eq_true rfl) rfl dX12_sits_25 (x_if_ne C (tgt := 35) dX12_sits_28 (by decide) (fun c => ?_) (fun c => ?_)))
        · have h := ite_f h c
          obtain ⟨r44, S44, e44, h⟩ := cal_some h
          exact x_aload_n C dX12_sits_35 rfl 0 rfl (x_iconst C dX12_sits_36 kc_1 (x_iload_n C dX12_sits_37 rfl 3 rfl (x_iload_n C dX12_sits_38 rfl 1 rfl (x_iload_n C dX12_sits_39 rfl 2 rfl (x_iconst C dX12_sits_40 kc_0 (x_iconst C dX12_sits_41 kc_0 (x_iconst C dX12_sits_42 kc_0 (x_iconst C dX12_sits_43 kc_0 (x_callVi C (c_m_tells e44) k_X12_310 (ci := 12) (q0 := 0) rfl rfl (by decide) (Nat.le_of_ble_eq_true rfl) rfl dX12_sits_44 (x_iret E h retI dX12_sits_47))))))))))
        · have h := ite_t h c
          exact x_iconst C dX12_sits_31 kc_m1 (x_goto C (tgt := 47) dX12_sits_32 (by decide) (x_iret E h retI dX12_sits_47))
set_option maxHeartbeats 4000000 in
theorem c_m_sum {ad : AD} {ek : EK} {lh : Launch} {Dh : va_G} {r : Int32} {S' : ST}  {S : ST} {l1 : Int32} {l2 : Int32} {l3 : Int32} (h : m_sum S l1 l2 l3 = some (r, S')) : MXi lh Dh ad ek (cM ad) yX12_sum cX12_sum 4 (some .int) 3 [.ref (ad.1 0), .int l1, .int l2, .int l3] S r S' := by
  refine mxi_of (by decide) (Nat.le_of_ble_eq_true rfl) (fun z C E => ?_)
  unfold m_sum at h
  obtain ⟨r3, e3, h⟩ := cal0_some h
  refine x_iload_n C dX12_sum_0 rfl 1 rfl (x_iconst C dX12_sum_1 kc_0 (x_iconst C dX12_sum_2 kc_3 (x_callSi C (c_m_in e3) k_X12_288 (by decide) (Nat.le_of_ble_eq_true rfl) rfl dX12_sum_3 (x_if_eq C (tgt := 26) dX12_sum_6 (by decide) (fun c => ?_) (fun c => ?_)))))
  · have h := ite_t h c
    exact x_iconst C dX12_sum_26 kc_m1 (x_goto C (tgt := 37) dX12_sum_27 (by decide) (x_iret E h retI dX12_sum_37))
  · have h := ite_f h c
    obtain ⟨r12, e12, h⟩ := cal0_some h
    refine x_iload_n C dX12_sum_9 rfl 2 rfl (x_iconst C dX12_sum_10 kc_0 (x_iconst C dX12_sum_11 kc_1 (x_callSi C (c_m_in e12) k_X12_288 (by decide) (Nat.le_of_ble_eq_true rfl) rfl dX12_sum_12 (x_if_eq C (tgt := 26) dX12_sum_15 (by decide) (fun c => ?_) (fun c => ?_)))))
    · have h := ite_t h c
      exact x_iconst C dX12_sum_26 kc_m1 (x_goto C (tgt := 37) dX12_sum_27 (by decide) (x_iret E h retI dX12_sum_37))
    · have h := ite_f h c
      obtain ⟨r20, S20, e20, h⟩ := cal_some h
      refine x_aload_n C dX12_sum_18 rfl 0 rfl (x_iload_n C dX12_sum_19 rfl 3 rfl (x_callVi C (c_m_isKnown e20) k_X12_325 (ci := 12) (q0 := 0) rfl rfl (by decide) (Nat.le_of_ble_eq_true rfl) rfl dX12_sum_20 (x_if_ne C (tgt := 30) dX12_sum_23 (by decide) (fun c => ?_) (fun c => ?_))))
      · have h := ite_f h c
        obtain ⟨r34, S34, e34, h⟩ := cal_some h
        exact x_aload_n C dX12_sum_30 rfl 0 rfl (x_iload_n C dX12_sum_31 rfl 1 rfl (x_iload_n C dX12_sum_32 rfl 2 rfl (x_iload_n C dX12_sum_33 rfl 3 rfl (x_callVi C (c_m_sumOf e34) k_X12_400 (ci := 12) (q0 := 0) rfl rfl (by decide) (Nat.le_of_ble_eq_true rfl) rfl dX12_sum_34 (x_iret E h retI dX12_sum_37)))))
      · have h := ite_t h c
        exact x_iconst C dX12_sum_26 kc_m1 (x_goto C (tgt := 37) dX12_sum_27 (by decide) (x_iret E h retI dX12_sum_37))
set_option maxHeartbeats 4000000 in
theorem c_m_unit {ad : AD} {ek : EK} {lh : Launch} {Dh : va_G} {S' : ST}  {S : ST} (h : m_unit S = some S') : MXv lh Dh ad ek (cM ad) yX12_unit cX12_unit 1 none 3 [.ref (ad.1 0)] S S' := by
  refine mxv_of (by decide) (Nat.le_of_ble_eq_true rfl) (fun z C E => ?_)
  unfold m_unit at h
  obtain ⟨r2, S2, e2, h⟩ := cal_some h
  refine x_aload_n C dX12_unit_0 rfl 0 rfl (x_iconst C dX12_unit_1 kc_2 (x_callVi C (c_m_is e2) k_X12_215 (ci := 12) (q0 := 0) rfl rfl (by decide) (Nat.le_of_ble_eq_true rfl) rfl dX12_unit_2 (x_if_eq C (tgt := 29) dX12_unit_5 (by decide) (fun c => ?_) (fun c => ?_))))
  · have h := ite_t h c
    refine x_aload_n C dX12_unit_29 rfl 0 rfl (gM_X12_13 C u_5_93 dX12_unit_30 (x_if_ne C (tgt := 88) dX12_unit_33 (by decide) (fun c => ?_) (fun c => ?_)))
    · have h := ite_f h c
      obtain ⟨S90, e90, h⟩ := calV_some h
      exact x_aload_n C dX12_unit_88 rfl 0 rfl (x_iconst C dX12_unit_89 kc_1 (x_callVv C (c_m_fail e90) k_X12_212 (ci := 12) (q0 := 0) rfl rfl (by decide) (Nat.le_of_ble_eq_true rfl) rfl dX12_unit_90 (x_vret E h dX12_unit_93)))
    · have h := ite_t h c
      obtain ⟨g44, h⟩ := G_some h
      refine x_aload_n C dX12_unit_36 rfl 0 rfl (gM_X12_5 C u_5_85 dX12_unit_37 (x_aload_n C dX12_unit_40 rfl 0 rfl (gM_X12_11 C u_5_91 dX12_unit_41 (aM_3 C g44 dX12_unit_44 (x_bipush C dX12_unit_45 kb_32 (x_icmp_lt C (tgt := 88) dX12_unit_47 (by decide) (fun c => ?_) (fun c => ?_)))))))
      · have h := ite_t h c
        obtain ⟨S90, e90, h⟩ := calV_some h
        exact x_aload_n C dX12_unit_88 rfl 0 rfl (x_iconst C dX12_unit_89 kc_1 (x_callVv C (c_m_fail e90) k_X12_212 (ci := 12) (q0 := 0) rfl rfl (by decide) (Nat.le_of_ble_eq_true rfl) rfl dX12_unit_90 (x_vret E h dX12_unit_93)))
      · have h := ite_f h c
        obtain ⟨g58, h⟩ := G_some h
        refine x_aload_n C dX12_unit_50 rfl 0 rfl (gM_X12_5 C u_5_85 dX12_unit_51 (x_aload_n C dX12_unit_54 rfl 0 rfl (gM_X12_11 C u_5_91 dX12_unit_55 (aM_3 C g58 dX12_unit_58 (x_bipush C dX12_unit_59 kb_43 (x_icmp_gt C (tgt := 88) dX12_unit_61 (by decide) (fun c => ?_) (fun c => ?_)))))))
        · have h := ite_t h c
          obtain ⟨S90, e90, h⟩ := calV_some h
          exact x_aload_n C dX12_unit_88 rfl 0 rfl (x_iconst C dX12_unit_89 kc_1 (x_callVv C (c_m_fail e90) k_X12_212 (ci := 12) (q0 := 0) rfl rfl (by decide) (Nat.le_of_ble_eq_true rfl) rfl dX12_unit_90 (x_vret E h dX12_unit_93)))
        · have h := ite_f h c
          obtain ⟨g74, h⟩ := G_some h
          obtain ⟨S78, e78, h⟩ := calV_some h
          obtain ⟨S82, e82, h⟩ := calV_some h
          exact x_aload_n C dX12_unit_64 rfl 0 rfl (x_iconst C dX12_unit_65 kc_1 (x_aload_n C dX12_unit_66 rfl 0 rfl (gM_X12_5 C u_5_85 dX12_unit_67 (x_aload_n C dX12_unit_70 rfl 0 rfl (gM_X12_11 C u_5_91 dX12_unit_71 (aM_3 C g74 dX12_unit_74 (x_bipush C dX12_unit_75 kb_32 (x_isub C dX12_unit_77 (x_callVv C (c_m_emit e78) k_X12_259 (ci := 12) (q0 := 0) rfl rfl (by decide) (Nat.le_of_ble_eq_true rfl) rfl dX12_unit_78 (x_aload_n C dX12_unit_81 rfl 0 rfl (x_callVv C (c_m_next e82) k_X12_218 (ci := 12) (q0 := 0) rfl rfl (by decide) (Nat.le_of_ble_eq_true rfl) rfl dX12_unit_82 (x_goto C (tgt := 93) dX12_unit_85 (by decide) (x_vret E h dX12_unit_93)))))))))))))
  · have h := ite_f h c
    obtain ⟨g18, h⟩ := G_some h
    obtain ⟨S19, e19, h⟩ := calV_some h
    obtain ⟨S23, e23, h⟩ := calV_some h
    exact x_aload_n C dX12_unit_8 rfl 0 rfl (x_iconst C dX12_unit_9 kc_0 (x_aload_n C dX12_unit_10 rfl 0 rfl (gM_X12_7 C u_5_87 dX12_unit_11 (x_aload_n C dX12_unit_14 rfl 0 rfl (gM_X12_11 C u_5_91 dX12_unit_15 (aM_5 C g18 dX12_unit_18 (x_callVv C (c_m_emit e19) k_X12_259 (ci := 12) (q0 := 0) rfl rfl (by decide) (Nat.le_of_ble_eq_true rfl) rfl dX12_unit_19 (x_aload_n C dX12_unit_22 rfl 0 rfl (x_callVv C (c_m_next e23) k_X12_218 (ci := 12) (q0 := 0) rfl rfl (by decide) (Nat.le_of_ble_eq_true rfl) rfl dX12_unit_23 (x_goto C (tgt := 93) dX12_unit_26 (by decide) (x_vret E h dX12_unit_93)))))))))))
set_option maxHeartbeats 4000000 in
theorem c_m_vote {ad : AD} {ek : EK} {lh : Launch} {Dh : va_G} {r : Int32} {S' : ST}  {S : ST} {l1 : Int32} {l2 : Int32} {l3 : Int32} {l4 : Int32} (h : m_vote S l1 l2 l3 l4 = some (r, S')) : MXi lh Dh ad ek (cM ad) yX12_vote cX12_vote 5 (some .int) 3 [.ref (ad.1 0), .int l1, .int l2, .int l3, .int l4] S r S' := by
  refine mxi_of (by decide) (Nat.le_of_ble_eq_true rfl) (fun z C E => ?_)
  unfold m_vote at h
  refine x_aload_n C dX12_vote_0 rfl 0 rfl (gM_X12_45 C u_5_125 dX12_vote_1 (x_sipush C dX12_vote_4 ks_180 (x_icmp_eq C (tgt := 45) dX12_vote_7 (by decide) (fun c => ?_) (fun c => ?_))))
  · have h := ite_t h c
    exact x_iconst C dX12_vote_45 kc_m1 (x_goto C (tgt := 62) dX12_vote_46 (by decide) (x_iret E h retI dX12_vote_62))
  · have h := ite_f h c
    obtain ⟨r13, e13, h⟩ := cal0_some h
    refine x_iload_n C dX12_vote_10 rfl 1 rfl (x_iconst C dX12_vote_11 kc_0 (x_iconst C dX12_vote_12 kc_3 (x_callSi C (c_m_in e13) k_X12_288 (by decide) (Nat.le_of_ble_eq_true rfl) rfl dX12_vote_13 (x_if_eq C (tgt := 45) dX12_vote_16 (by decide) (fun c => ?_) (fun c => ?_)))))
    · have h := ite_t h c
      exact x_iconst C dX12_vote_45 kc_m1 (x_goto C (tgt := 62) dX12_vote_46 (by decide) (x_iret E h retI dX12_vote_62))
    · have h := ite_f h c
      obtain ⟨r20, e20, h⟩ := cal0_some h
      refine x_iload_n C dX12_vote_19 rfl 2 rfl (x_callSi C (c_m_isMember e20) k_X12_314 (by decide) (Nat.le_of_ble_eq_true rfl) rfl dX12_vote_20 (x_if_eq C (tgt := 45) dX12_vote_23 (by decide) (fun c => ?_) (fun c => ?_)))
      · have h := ite_t h c
        exact x_iconst C dX12_vote_45 kc_m1 (x_goto C (tgt := 62) dX12_vote_46 (by decide) (x_iret E h retI dX12_vote_62))
      · have h := ite_f h c
        obtain ⟨r29, e29, h⟩ := cal0_some h
        refine x_iload_n C dX12_vote_26 rfl 3 rfl (x_iconst C dX12_vote_27 kc_0 (x_iconst C dX12_vote_28 kc_1 (x_callSi C (c_m_in e29) k_X12_288 (by decide) (Nat.le_of_ble_eq_true rfl) rfl dX12_vote_29 (x_if_eq C (tgt := 45) dX12_vote_32 (by decide) (fun c => ?_) (fun c => ?_)))))
        · have h := ite_t h c
          exact x_iconst C dX12_vote_45 kc_m1 (x_goto C (tgt := 62) dX12_vote_46 (by decide) (x_iret E h retI dX12_vote_62))
        · have h := ite_f h c
          obtain ⟨r39, e39, h⟩ := cal0_some h
          refine x_iload C dX12_vote_35 4 rfl (x_iconst C dX12_vote_37 kc_0 (x_iconst C dX12_vote_38 kc_1 (x_callSi C (c_m_in e39) k_X12_288 (by decide) (Nat.le_of_ble_eq_true rfl) rfl dX12_vote_39 (x_if_ne C (tgt := 49) dX12_vote_42 (by decide) (fun c => ?_) (fun c => ?_)))))
          · have h := ite_f h c
            obtain ⟨r59, S59, e59, h⟩ := cal_some h
            exact x_aload_n C dX12_vote_49 rfl 0 rfl (x_bipush C dX12_vote_50 kb_9 (x_iconst C dX12_vote_52 kc_m1 (x_iload_n C dX12_vote_53 rfl 1 rfl (x_iload_n C dX12_vote_54 rfl 2 rfl (x_iload_n C dX12_vote_55 rfl 3 rfl (x_iconst C dX12_vote_56 kc_0 (x_iconst C dX12_vote_57 kc_0 (x_iconst C dX12_vote_58 kc_0 (x_callVi C (c_m_tells e59) k_X12_310 (ci := 12) (q0 := 0) rfl rfl (by decide) (Nat.le_of_ble_eq_true rfl) rfl dX12_vote_59 (x_iret E h retI dX12_vote_62))))))))))
          · have h := ite_t h c
            exact x_iconst C dX12_vote_45 kc_m1 (x_goto C (tgt := 62) dX12_vote_46 (by decide) (x_iret E h retI dX12_vote_62))
set_option maxHeartbeats 4000000 in
theorem c_m_who {ad : AD} {ek : EK} {lh : Launch} {Dh : va_G} {r : Int32} {S' : ST}  {S : ST} {l1 : Int32} {l2 : Int32} {l3 : Int32} (h : m_who S l1 l2 l3 = some (r, S')) : MXi lh Dh ad ek (cM ad) yX12_who cX12_who 5 (some .int) 3 [.ref (ad.1 0), .int l1, .int l2, .int l3] S r S' := by
  refine mxi_of (by decide) (Nat.le_of_ble_eq_true rfl) (fun z C E => ?_)
  unfold m_who at h
  obtain ⟨r1, e1, h⟩ := cal0_some h
  refine x_iload_n C dX12_who_0 rfl 1 rfl (x_callSi C (c_m_isSeat e1) k_X12_304 (by decide) (Nat.le_of_ble_eq_true rfl) rfl dX12_who_1 (x_if_eq C (tgt := 22) dX12_who_4 (by decide) (fun c => ?_) (fun c => ?_)))
  · have h := ite_t h c
    exact x_iconst C dX12_who_22 kc_m1 (x_iret E h retI dX12_who_23)
  · have h := ite_f h c
    obtain ⟨r8, e8, h⟩ := cal0_some h
    refine x_iload_n C dX12_who_7 rfl 2 rfl (x_callSi C (c_m_isDay e8) k_X12_292 (by decide) (Nat.le_of_ble_eq_true rfl) rfl dX12_who_8 (x_if_eq C (tgt := 22) dX12_who_11 (by decide) (fun c => ?_) (fun c => ?_)))
    · have h := ite_t h c
      exact x_iconst C dX12_who_22 kc_m1 (x_iret E h retI dX12_who_23)
    · have h := ite_f h c
      obtain ⟨r16, S16, e16, h⟩ := cal_some h
      refine x_aload_n C dX12_who_14 rfl 0 rfl (x_iload_n C dX12_who_15 rfl 3 rfl (x_callVi C (c_m_isKnown e16) k_X12_325 (ci := 12) (q0 := 0) rfl rfl (by decide) (Nat.le_of_ble_eq_true rfl) rfl dX12_who_16 (x_if_ne C (tgt := 24) dX12_who_19 (by decide) (fun c => ?_) (fun c => ?_))))
      · have h := ite_f h c
        obtain ⟨r28, S28, e28, h⟩ := cal_some h
        refine x_aload_n C dX12_who_24 rfl 0 rfl (x_iload_n C dX12_who_25 rfl 1 rfl (x_iload_n C dX12_who_26 rfl 2 rfl (x_iload_n C dX12_who_27 rfl 3 rfl (x_callVi C (c_m_whoIn e28) k_X12_328 (ci := 12) (q0 := 0) rfl rfl (by decide) (Nat.le_of_ble_eq_true rfl) rfl dX12_who_28 (x_istore C dX12_who_31 (by decide) rfl (x_iload C dX12_who_33 0 rfl (x_iconst C dX12_who_35 kc_m1 (x_icmp_ne C (tgt := 44) dX12_who_36 (by decide) (fun c => ?_) (fun c => ?_)))))))))
        · have h := ite_f h c
          exact x_iload C dX12_who_44 0 rfl (x_iret E h retI dX12_who_46)
        · have h := ite_t h c
          exact x_bipush C dX12_who_39 kb_m2 (x_goto C (tgt := 46) dX12_who_41 (by decide) (x_iret E h retI dX12_who_46))
      · have h := ite_t h c
        exact x_iconst C dX12_who_22 kc_m1 (x_iret E h retI dX12_who_23)
