set_option maxHeartbeats 4000000 in
theorem w_x10_placeAmong_j59 {z : ZT} {ad : AD} {w : ST → va_W} {lh : Launch} {Dh : va_G} {r : Int32} {S0 : ST} (C : CX z ad (ekX ad) cX10_placeAmong RX10 lh Dh 5 8) (E : EI z w cX10_placeAmong (some .int) r S0) {q : Nat} (hq : q < 2) {Kb : Int64 → Int32 → Int64 → Int32 → Option Int32} (hKb : ∀  (l1 : Int64) (l3 : Int32) (l4 : Int64) (l6 : Int32) , Kb l1 l3 l4 l6 = some r → XW z w 8 [(0, .ref (ad.1 (100 + q))), (1, .long l1), (3, .int l3), (4, .long l4), (6, .int l6)] [] S0) {l1 : Int64} {l3 : Int32} {l4 : Int64} {l6 : Int32} (h : x10_placeAmong_j59 q Kb l1 l3 l4 l6 = some r) : XW z w 59 [(0, .ref (ad.1 (100 + q))), (1, .long l1), (3, .int l3), (4, .long l4), (6, .int l6)] [] S0 := by
  unfold x10_placeAmong_j59 at h
  exact x_iinc C dX10_placeAmong_59 4 rfl ki_1 (by decide) rfl (x_goto C (tgt := 8) dX10_placeAmong_62 (by decide) (x_perm [1, 2, 3, 4, 0] rfl (hKb _ _ _ _ h)))
set_option maxHeartbeats 4000000 in
theorem w_x10_placeAmong_h8 {z : ZT} {ad : AD} {w : ST → va_W} {lh : Launch} {Dh : va_G} {r : Int32} {S0 : ST} (C : CX z ad (ekX ad) cX10_placeAmong RX10 lh Dh 5 8) (E : EI z w cX10_placeAmong (some .int) r S0) {q : Nat} (hq : q < 2) : ∀ (n : Nat) (l1 : Int64) (l3 : Int32) (l4 : Int64) (l6 : Int32), x10_placeAmong_h8 q n l1 l3 l4 l6 = some r → XW z w 8 [(0, .ref (ad.1 (100 + q))), (1, .long l1), (3, .int l3), (4, .long l4), (6, .int l6)] [] S0 := by
  intro n
  induction n with
  | zero => intro l1 l3 l4 l6 h; cases h
  | succ n ih =>
    intro l1 l3 l4 l6 h
    have hKb := ih
    refine x_iload C dX10_placeAmong_8 4 rfl (x_aload_n C dX10_placeAmong_10 rfl 0 rfl (x_callVsi C hq (c_j0_length hq) k_X10_81 (by decide) (Nat.le_of_ble_eq_true rfl) rfl dX10_placeAmong_11 (x_icmp_ge C (tgt := 65) dX10_placeAmong_14 (by decide) (fun c => ?_) (fun c => ?_))))
    · have h := ite_t h c
      exact (by
        exact x_iconst C dX10_placeAmong_65 kc_m1 (x_iret0 E h retI dX10_placeAmong_66))
    · have h := ite_f h c
      obtain ⟨g20, h⟩ := G_some h
      refine x_aload_n C dX10_placeAmong_17 rfl 0 rfl (x_iload C dX10_placeAmong_18 4 rfl (x_callVsi C hq (c_j0_charAt hq g20) k_X10_86 (by decide) (Nat.le_of_ble_eq_true rfl) rfl dX10_placeAmong_20 (x_istore C dX10_placeAmong_23 (by decide) rfl (x_iload C dX10_placeAmong_25 0 rfl (x_bipush C dX10_placeAmong_27 kb_32 (x_icmp_eq C (tgt := 44) dX10_placeAmong_29 (by decide) (fun c => ?_) (fun c => ?_)))))))
      · have h := ite_t h c
        refine x_lload C dX10_placeAmong_44 4 rfl (x_lload_n C dX10_placeAmong_46 rfl 2 rfl (x_lcmp C dX10_placeAmong_47 (x_if_ne C (tgt := 53) dX10_placeAmong_48 (by decide) (fun c => ?_) (fun c => ?_))))
        · have h := ite_f h c
          exact x_iinc C dX10_placeAmong_53 3 rfl ki_1 (by decide) rfl (x_lconst C dX10_placeAmong_56 (v := 0) rfl (x_lstore C dX10_placeAmong_57 (by decide) rfl (x_perm [3, 4, 1, 0, 5] rfl (w_x10_placeAmong_j59 C E hq hKb h))))
        · have h := ite_t h c
          exact (by
            exact x_iload_n C dX10_placeAmong_51 rfl 3 rfl (x_iret0 E h retI dX10_placeAmong_52))
      · have h := ite_f h c
        obtain ⟨r36, e36, h⟩ := cal0_some h
        exact x_lload C dX10_placeAmong_32 4 rfl (x_iload C dX10_placeAmong_34 0 rfl (x_callSl C (c_x10_packLetter e36) k_X10_63 (by decide) (Nat.le_of_ble_eq_true rfl) rfl dX10_placeAmong_36 (x_lstore C dX10_placeAmong_39 (by decide) rfl (x_goto C (tgt := 59) dX10_placeAmong_41 (by decide) (x_perm [2, 3, 4, 0, 5] rfl (w_x10_placeAmong_j59 C E hq hKb h))))))
set_option maxHeartbeats 4000000 in
theorem c_x10_placeAmong {ad : AD} {lh : Launch} {Dh : va_G} {w : ST → va_W} {S0 : ST} {r : Int32}  {q : Nat} (hq : q < 2) {l1 : Int64} (h : x10_placeAmong q l1 = some r) : MXi lh Dh ad (ekX ad) w yX10_placeAmong cX10_placeAmong 8 (some .int) 5 [.ref (ad.1 (100 + q)), .long l1] S0 r S0 := by
  refine mxi_of (by decide) (Nat.le_of_ble_eq_true rfl) (fun z C E => ?_)
  unfold x10_placeAmong at h
  exact x_iconst C dX10_placeAmong_0 kc_0 (x_istore_n C dX10_placeAmong_1 rfl (by decide) rfl (x_lconst C dX10_placeAmong_2 (v := 0) rfl (x_lstore C dX10_placeAmong_3 (by decide) rfl (x_iconst C dX10_placeAmong_5 kc_0 (x_istore C dX10_placeAmong_6 (by decide) rfl (x_perm [3, 4, 2, 1, 0] rfl (w_x10_placeAmong_h8 C E hq FU _ _ _ _ h)))))))
set_option maxHeartbeats 4000000 in
theorem c_x10_wordToken {ad : AD} {lh : Launch} {Dh : va_G} {w : ST → va_W} {S0 : ST} {r : Int32}  {l0 : Int64} (h : x10_wordToken l0 = some r) : MXi lh Dh ad (ekX ad) w yX10_wordToken cX10_wordToken 4 (some .int) 6 [.long l0] S0 r S0 := by
  refine mxi_of (by decide) (Nat.le_of_ble_eq_true rfl) (fun z C E => ?_)
  unfold x10_wordToken at h
  obtain ⟨r3, e3, h⟩ := cal0_some h
  refine x_ldcS0 C rfl dX10_wordToken_0 (x_lload_n C dX10_wordToken_2 rfl 0 rfl (x_callSi C (c_x10_placeAmong (q := 0) (by decide) e3) k_X10_75 (by decide) (Nat.le_of_ble_eq_true rfl) rfl dX10_wordToken_3 (x_istore_n C dX10_wordToken_6 rfl (by decide) rfl (x_iload_n C dX10_wordToken_7 rfl 0 rfl (x_iconst C dX10_wordToken_8 kc_m1 (x_icmp_eq C (tgt := 14) dX10_wordToken_9 (by decide) (fun c => ?_) (fun c => ?_)))))))
  · have h := ite_t h c
    obtain ⟨r17, e17, h⟩ := cal0_some h
    refine x_ldcS1 C rfl dX10_wordToken_14 (x_lload_n C dX10_wordToken_16 rfl 1 rfl (x_callSi C (c_x10_placeAmong (q := 1) (by decide) e17) k_X10_75 (by decide) (Nat.le_of_ble_eq_true rfl) rfl dX10_wordToken_17 (x_istore_n C dX10_wordToken_20 rfl (by decide) rfl (x_iload_n C dX10_wordToken_21 rfl 0 rfl (x_iconst C dX10_wordToken_22 kc_m1 (x_icmp_eq C (tgt := 33) dX10_wordToken_23 (by decide) (fun c => ?_) (fun c => ?_)))))))
    · have h := ite_t h c
      exact x_bipush C dX10_wordToken_33 kb_24 (x_iret0 E h retI dX10_wordToken_35)
    · have h := ite_f h c
      exact x_bipush C dX10_wordToken_26 kb_12 (x_iload_n C dX10_wordToken_28 rfl 0 rfl (x_iadd C dX10_wordToken_29 (x_goto C (tgt := 35) dX10_wordToken_30 (by decide) (x_iret0 E h retI dX10_wordToken_35))))
  · have h := ite_f h c
    exact x_iload_n C dX10_wordToken_12 rfl 0 rfl (x_iret0 E h retI dX10_wordToken_13)
