theorem k255 : (Int16.ofInt 255).toInt32 = 255 := by decide
theorem k0 : Int32.ofInt 0 = 0 := by decide
theorem k1 : Int32.ofInt 1 = 1 := by decide
theorem c_j3 {ad : AD} {lh : Launch} {Dh : va_G} {w : ST → va_W} {S : ST} {i n : Int32} (o : Option Nat) (h0 : ¬ i < 0) (h1 : i < n) : MXi lh Dh ad (ekX ad) w yJ3_checkIndex_8e157 cJ3_checkIndex_8e157 3 (some .int) 1 [.int i, .int n, va_rf o] S i S := by
  cases o with
  | none =>
    refine mxi_of (by decide) (Nat.le_of_ble_eq_true rfl) (fun z C E => ?_)
    refine x_iload_n C dJ3_checkIndex_8e157_0 rfl 0 rfl (x_if_lt C (tgt := 9) dJ3_checkIndex_8e157_1 (by decide) (fun c => absurd c h0) (fun c => ?_))
    refine x_iload_n C dJ3_checkIndex_8e157_4 rfl 0 rfl (x_iload_n C dJ3_checkIndex_8e157_5 rfl 1 rfl (x_icmp_lt C (tgt := 16) dJ3_checkIndex_8e157_6 (by decide) (fun c => ?_) (fun c => absurd h1 c)))
    exact x_iload_n C dJ3_checkIndex_8e157_16 rfl 0 rfl (E 17 _ dJ3_checkIndex_8e157_17 retI)
  | some a =>
    refine mxi_of (by decide) (Nat.le_of_ble_eq_true rfl) (fun z C E => ?_)
    refine x_iload_n C dJ3_checkIndex_8e157_0 rfl 0 rfl (x_if_lt C (tgt := 9) dJ3_checkIndex_8e157_1 (by decide) (fun c => absurd c h0) (fun c => ?_))
    refine x_iload_n C dJ3_checkIndex_8e157_4 rfl 0 rfl (x_iload_n C dJ3_checkIndex_8e157_5 rfl 1 rfl (x_icmp_lt C (tgt := 16) dJ3_checkIndex_8e157_6 (by decide) (fun c => ?_) (fun c => absurd h1 c)))
    exact x_iload_n C dJ3_checkIndex_8e157_16 rfl 0 rfl (E 17 _ dJ3_checkIndex_8e157_17 retI)
theorem c_j0_check {ad : AD} {lh : Launch} {Dh : va_G} {w : ST → va_W} {S : ST} {i n : Int32} (h0 : ¬ i < 0) (h1 : i < n) : MXv lh Dh ad (ekX ad) w yJ0_checkIndex_df160 cJ0_checkIndex_df160 2 none 2 [.int i, .int n] S S := by
  refine mxv_of (by decide) (Nat.le_of_ble_eq_true rfl) (fun z C E => ?_)
  refine x_iload_n C dJ0_checkIndex_df160_0 rfl 0 rfl (x_iload_n C dJ0_checkIndex_df160_1 rfl 1 rfl (x_getsF C u_3_20 dJ0_checkIndex_df160_2 (fun o => ?_)))
  exact x_callSi C (c_j3 o h0 h1) (⟨⟨u_3_24, u_3_22, u_3_23, u_1_16⟩, ⟨by decide, by decide, by decide +kernel⟩, by decide⟩ : CWS RJ0 1059 yJ3_checkIndex_8e157 cJ3_checkIndex_8e157 3 (some .int) 3) (by decide) (Nat.le_of_ble_eq_true rfl) rfl dJ0_checkIndex_df160_5 (x_pop C dJ0_checkIndex_df160_8 rfl (E 9 _ dJ0_checkIndex_df160_9))
def sCh (q : Nat) (i : Int32) : Int32 := ((((bytS.getD q []).getD i.toNatClampNeg 0) &&& 255).toUInt32 % 65536).toInt32
def sLen (q : Nat) : Int32 := Int32.ofNat (lenS.getD q 0) >>> ((0 : Int32) &&& 31)
theorem inb_lt {i : Int32} {n : Nat} (hn : n < 2 ^ 31) (h : inb i n = true) : ¬ i < 0 ∧ i < Int32.ofNat n := by
  have h2 := inb_in h
  obtain ⟨j, hj, rfl⟩ := vp_in_of h2 hn
  exact ⟨nI_pos (by omega), nI_lt hj hn⟩
theorem lenS_lt : ∀ q, q < 2 → lenS.getD q 0 < 2 ^ 31 := by decide
theorem c_j1_charAt {ad : AD} {lh : Launch} {Dh : va_G} {w : ST → va_W} {S : ST} {q : Nat} (hq : q < 2) {i : Int32} (hin : inb i (lenS.getD q 0) = true) : MXi lh Dh ad (ekX ad) w yJ1_charAt_3b067 cJ1_charAt_3b067 2 (some .char) 3 [.ref (ad.1 (110 + q)), .int i] S (sCh q i) S := by
  refine mxi_of (by decide) (Nat.le_of_ble_eq_true rfl) (fun z C E => ?_)
  have hi := inb_lt (lenS_lt q hq) hin
  refine x_iload_n C dJ1_charAt_3b067_0 rfl 1 rfl (x_aload_n C dJ1_charAt_3b067_1 rfl 0 rfl (x_slen C hq dJ1_charAt_3b067_2 (x_callSv (As := [.int i, .int (Int32.ofNat (lenS.getD q 0))]) C (c_j0_check hi.1 hi.2) (⟨⟨u_3_19, u_3_17, u_3_18, u_1_14⟩, ⟨by decide, by decide, by decide +kernel⟩, by decide⟩ : CWS RJ1 9 yJ0_checkIndex_df160 cJ0_checkIndex_df160 2 none 2) (by decide) (Nat.le_of_ble_eq_true rfl) rfl dJ1_charAt_3b067_3 ?_)))
  exact x_aload_n C dJ1_charAt_3b067_6 rfl 0 rfl (x_iload_n C dJ1_charAt_3b067_7 rfl 1 rfl (x_sbald C hq hin dJ1_charAt_3b067_8 (x_sipush C dJ1_charAt_3b067_9 k255 (x_iand C dJ1_charAt_3b067_12 (x_i2c C dJ1_charAt_3b067_13 (E 14 _ dJ1_charAt_3b067_14 (Or.inr (pk_nc _))))))))
theorem c_j0_latin {ad : AD} {lh : Launch} {Dh : va_G} {w : ST → va_W} {S : ST} {q : Nat} (hq : q < 2) : MXi lh Dh ad (ekX ad) w yJ0_isLatin1_aae02 cJ0_isLatin1_aae02 1 (some .boolean) 1 [.ref (ad.1 (100 + q))] S 1 S := by
  refine mxi_of (by decide) (Nat.le_of_ble_eq_true rfl) (fun z C E => ?_)
  refine x_getsC C u_3_4 dJ0_isLatin1_aae02_0 (x_if_eq C (tgt := 17) dJ0_isLatin1_aae02_3 (by decide) (fun c => absurd c (by decide)) (fun c => ?_))
  refine x_aload_n C dJ0_isLatin1_aae02_6 rfl 0 rfl (x_sgetC C hq u_7_168 dJ0_isLatin1_aae02_7 (x_if_ne C (tgt := 17) dJ0_isLatin1_aae02_10 (by decide) (fun c => absurd rfl c) (fun c => ?_)))
  exact x_iconst C dJ0_isLatin1_aae02_13 k1 (x_goto C (tgt := 18) dJ0_isLatin1_aae02_14 (by decide) (E 18 _ dJ0_isLatin1_aae02_18 (retB rfl)))
theorem c_j0_coder {ad : AD} {lh : Launch} {Dh : va_G} {w : ST → va_W} {S : ST} {q : Nat} (hq : q < 2) : MXi lh Dh ad (ekX ad) w yJ0_coder_7d493 cJ0_coder_7d493 1 (some .byte) 1 [.ref (ad.1 (100 + q))] S 0 S := by
  refine mxi_of (by decide) (Nat.le_of_ble_eq_true rfl) (fun z C E => ?_)
  refine x_getsC C u_3_4 dJ0_coder_7d493_0 (x_if_eq C (tgt := 13) dJ0_coder_7d493_3 (by decide) (fun c => absurd c (by decide)) (fun c => ?_))
  exact x_aload_n C dJ0_coder_7d493_6 rfl 0 rfl (x_sgetC C hq u_7_168 dJ0_coder_7d493_7 (x_goto C (tgt := 14) dJ0_coder_7d493_10 (by decide) (E 14 _ dJ0_coder_7d493_14 (Or.inr (by decide)))))
theorem c_j0_length {ad : AD} {lh : Launch} {Dh : va_G} {w : ST → va_W} {S : ST} {q : Nat} (hq : q < 2) : MXi lh Dh ad (ekX ad) w yJ0_length_8abf5 cJ0_length_8abf5 1 (some .int) 2 [.ref (ad.1 (100 + q))] S (sLen q) S := by
  refine mxi_of (by decide) (Nat.le_of_ble_eq_true rfl) (fun z C E => ?_)
  refine x_aload_n C dJ0_length_8abf5_0 rfl 0 rfl (x_sgetV C hq u_7_167 dJ0_length_8abf5_1 (x_slen C hq dJ0_length_8abf5_4 (x_aload_n C dJ0_length_8abf5_5 rfl 0 rfl ?_)))
  exact x_callVsi C hq (c_j0_coder hq) (⟨⟨u_3_3, u_3_0, u_3_1, u_3_2, u_1_14⟩, ⟨rfl, by decide, by decide, by decide +kernel⟩, by decide⟩ : CWV RJ0 335 "java/lang/String" yJ0_coder_7d493 cJ0_coder_7d493 1 (some .byte) 0) (by decide) (Nat.le_of_ble_eq_true rfl) rfl dJ0_length_8abf5_6 (x_ishr C dJ0_length_8abf5_9 (E 10 _ dJ0_length_8abf5_10 retI))
theorem c_j0_charAt {ad : AD} {lh : Launch} {Dh : va_G} {w : ST → va_W} {S : ST} {q : Nat} (hq : q < 2) {i : Int32} (hin : inb i (lenS.getD q 0) = true) : MXi lh Dh ad (ekX ad) w yJ0_charAt_5068e cJ0_charAt_5068e 2 (some .char) 4 [.ref (ad.1 (100 + q)), .int i] S (sCh q i) S := by
  refine mxi_of (by decide) (Nat.le_of_ble_eq_true rfl) (fun z C E => ?_)
  refine x_aload_n C dJ0_charAt_5068e_0 rfl 0 rfl (x_callVsi C hq (c_j0_latin hq) (⟨⟨u_3_13, u_3_10, u_3_11, u_3_12, u_1_14⟩, ⟨rfl, by decide, by decide, by decide +kernel⟩, by decide⟩ : CWV RJ0 492 "java/lang/String" yJ0_isLatin1_aae02 cJ0_isLatin1_aae02 1 (some .boolean) 0) (by decide) (Nat.le_of_ble_eq_true rfl) rfl dJ0_charAt_5068e_1 (x_if_eq C (tgt := 16) dJ0_charAt_5068e_4 (by decide) (fun c => absurd c (by decide)) (fun c => ?_)))
  refine x_aload_n C dJ0_charAt_5068e_7 rfl 0 rfl (x_sgetV C hq u_7_167 dJ0_charAt_5068e_8 (x_iload_n C dJ0_charAt_5068e_11 rfl 1 rfl ?_))
  exact x_callSi (As := [.ref (ad.1 (110 + q)), .int i]) C (c_j1_charAt hq hin) (⟨⟨u_3_16, u_3_14, u_3_15, u_1_15⟩, ⟨by decide, by decide, by decide +kernel⟩, by decide⟩ : CWS RJ0 495 yJ1_charAt_3b067 cJ1_charAt_3b067 2 (some .char) 2) (by decide) (Nat.le_of_ble_eq_true rfl) rfl dJ0_charAt_5068e_12 (E 15 _ dJ0_charAt_5068e_15 (Or.inr (pk_nc _)))
