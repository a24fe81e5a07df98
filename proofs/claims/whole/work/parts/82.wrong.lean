theorem jj_toInt {a : Int} (h : -9223372036854775808 ≤ a) (h2 : a < 9223372036854775808) : (jj a).toInt = a := Int64.toInt_ofInt_of_le h h2
theorem jj_of (v : Int64) : jj v.toInt = v := Int64.ofInt_toInt v
theorem ii_jj {a : Int} (h : -2147483648 ≤ a) (h2 : a < 2147483648) : Int32.toInt64 (ii a) = jj a := by
  rw [← jj_of (Int32.toInt64 (ii a)), Int32.toInt_toInt64, ii_toInt h h2]
theorem lg_z {b : Nat} (hb : b ≤ 5000) : (lg_cmp (jj b) 0 = 0) = (b = 0) := by
  have z : (0 : Int64) = jj 0 := rfl
  have e : (jj (b : Int) > 0) = (0 < b) := by
    show (0 < jj (b : Int)) = _
    rw [z, Int64.lt_iff_toInt_lt, jj_toInt (by omega) (by omega), jj_toInt (by omega) (by omega)]
    exact propext (by omega)
  unfold lg_cmp
  by_cases c : b = 0
  · subst c
    exact propext ⟨fun _ => rfl, fun _ => by decide⟩
  · rw [if_pos (by rw [e]; omega)]
    simp only [c]
    exact eq_false (by decide)
theorem jj_ne {b : Nat} (hb : b ≤ 5000) (h : ¬ b = 0) : ¬ (jj b = 0) := by
  intro e
  have := congrArg Int64.toInt e
  rw [jj_toInt (by omega) (by omega)] at this
  have z : (0 : Int64).toInt = 0 := by decide
  omega
theorem jj_divn {a b : Nat} (ha : a ≤ 5000) (hb : b ≤ 5000) : jj a / jj b = jj ((a / b : Nat) : Int) := by
  rw [← jj_of (jj a / jj b), Int64.toInt_div_of_ne_left, jj_toInt (by omega) (by omega), jj_toInt (by omega) (by omega)]
  · rfl
  · intro e
    have := congrArg Int64.toInt e
    rw [jj_toInt (by omega) (by omega)] at this
    have e2 : (Int64.minValue).toInt = -9223372036854775808 := by decide
    omega
theorem jj_mul (a b : Int) : jj a * jj b = jj (a * b) := (Int64.ofInt_mul a b).symm
theorem jj_sub (a b : Int) : jj a - jj b = jj (a - b) := (Int64.ofInt_sub a b).symm
theorem ii_divnn {a b : Nat} (ha : a ≤ 5000) (hb : b ≤ 5000) : ii a / ii b = ii ((a / b : Nat) : Int) := by
  rw [ii_div (by omega) (by omega) (by omega) (by omega)]
  rfl
theorem mod_eqI {a b : Nat} : (a : Int) - ((a / b : Nat) : Int) * (b : Int) = ((a % b : Nat) : Int) := by
  have := Nat.div_add_mod a b
  have e : ((b * (a / b) + a % b : Nat) : Int) = (a : Int) := congrArg _ this
  rw [Int.natCast_add, Int.natCast_mul, Int.mul_comm] at e
  omega
theorem mod_half {a b : Nat} (h : b < a) (h0 : 0 < b) : 2 * (a % b) < a := by
  have h1 := Nat.mod_lt a h0
  have h2 := Nat.div_add_mod a b
  have h3 : 1 ≤ a / b := Nat.div_pos (by omega) h0
  have h4 : b * 1 ≤ b * (a / b) := Nat.mul_le_mul_left b h3
  omega
def lgn : Nat → Nat
  | 0 => 1
  | k + 1 => 2 * lgn k
theorem gcdC {a b : Nat} {I : Mem} {J : Nat → Int64} (ha : a ≤ 1296) (hb : b ≤ 1296) (Q : Option Value → HP → Prop) : wp (f_Bx_commonDivisor (ii a) (ii b)) Q (M I J) = Q (some (.int (ii (Nat.gcd a b : Nat)))) (M I J) := by
  refine wp_det ?_ Q
  rw [u_f_Bx_commonDivisor]
  unfold b_Bx_commonDivisor_7
  refine wp_loop (fun n q I' J' => I' = I ∧ J' = J ∧ ∃ x y i k : Nat, q = (ii x, ii y, ii i) ∧ x ≤ 1296 ∧ y ≤ 1296 ∧ Nat.gcd x y = Nat.gcd a b ∧ i + n = 100 ∧ ((y < lgn k ∧ i + 2 * k ≤ 99) ∨ (y < x ∧ x < lgn k ∧ i + 2 * k ≤ 100))) ?_ (n := 100) ⟨rfl, rfl, a, b, 0, 11, rfl, ha, hb, rfl, by omega, Or.inl ⟨show b < 2048 by omega, by omega⟩⟩ (by omega)
  rintro n q I' J' ⟨rfl, rfl, x, y, i, k, rfl, hx, hy, hg, hi, hk⟩ K' hK
  try dsimp only
  by_cases c : y = 0
  · subst c
    have hgx : Nat.gcd x 0 = x := Nat.gcd_zero_right x
    rw [hgx] at hg
    by_cases c1 : n = 0
    · simp (disch := first | omega | assumption | (simp (disch := omega) only [lit_ii, ii_add, ii_sub, ii_mul, ii_neg, ii_lt, ii_le, ii_inj, inb_ii, ix_ii, cin_ii, stn, sty, san, say, Int.toNat_natCast, tn_a, tn_s, tn_m, true_or, or_true, not_false_eq_true, Int.reduceToNat, Nat.reduceAdd, Nat.reduceMul, hpc_3, hpc_17, hpc_34, hpc_36, hpc_38, hpc_40, hpc_42, hpc_44, hpc_46, shc_66, shc_68, shc_70, shc_72, txc_6, txc_9, txc_20, txc_23, txc_60] <;> omega) | fail) only [↓wp_cG, ↓wp_rt, ↓wp_itep, ↓wp_iten, ↓wp_toI, ↓wp_toV, ↓wp_toQ, ↓wp_toQn, ↓wp_toR, ↓wp_toJ, ↓wp_oN, ↓wp_oNn, ↓wp_ltI, ↓wp_ltJ, ↓wp_swp, ↓wp_swd, ↓wp_swn, ↓wp_bit, ↓wp_ex, ↓wp_bL, ↓wx_bA, ↓wx_tb, ↓wx_sc, ↓wx_dv, ↓wp_sl, ↓o_0, ↓i_0_0, ↓i_0_1, ↓i_0_2, ↓i_0_3, ↓i_0_4, ↓i_0_5, ↓i_0_6, ↓i_0_7, ↓i_0_8, ↓w_0_8, ↓o_1, ↓i_1_0, ↓i_1_1, ↓i_1_2, ↓i_1_3, ↓i_1_4, ↓i_1_5, ↓i_1_6, ↓i_1_7, ↓i_1_8, ↓w_1_8, ↓i_1_9, ↓w_1_9, ↓i_1_10, ↓w_1_10, ↓i_1_11, ↓w_1_11, ↓i_1_12, ↓w_1_12, ↓i_1_13, ↓w_1_13, ↓i_1_14, ↓w_1_14, ↓i_1_15, ↓w_1_15, ↓a_2, ↓s_2, ↓l_2, ↓o_3, ↓i_3_0, ↓i_3_1, ↓w_3_1, ↓i_3_2, ↓w_3_2, ↓a_4, ↓s_4, ↓l_4, ↓a_5, ↓s_5, ↓l_5, ↓o_6, ↓i_6_0, ↓i_6_1, ↓i_6_2, ↓w_6_2, ↓a_7, ↓s_7, ↓l_7, ↓a_8, ↓s_8, ↓l_8, ↓o_9, ↓i_9_0, ↓i_9_1, ↓i_9_2, ↓w_9_2, ↓a_10, ↓s_10, ↓l_10, ↓a_11, ↓s_11, ↓l_11, ↓a_12, ↓s_12, ↓l_12, ↓a_13, ↓s_13, ↓l_13, ↓a_14, ↓s_14, ↓l_14, ↓o_15, ↓i_15_0, ↓i_15_1, ↓i_15_2, ↓i_15_3, ↓i_15_4, ↓i_15_5, ↓i_15_6, ↓i_15_7, ↓i_15_8, ↓w_15_8, ↓i_15_9, ↓w_15_9, ↓i_15_10, ↓w_15_10, ↓i_15_11, ↓w_15_11, ↓i_15_12, ↓w_15_12, ↓i_15_13, ↓w_15_13, ↓i_15_14, ↓w_15_14, ↓i_15_15, ↓w_15_15, ↓a_16, ↓s_16, ↓l_16, ↓o_17, ↓i_17_0, ↓i_17_1, ↓w_17_1, ↓i_17_2, ↓w_17_2, ↓a_18, ↓s_18, ↓l_18, ↓a_19, ↓s_19, ↓l_19, ↓o_20, ↓i_20_0, ↓i_20_1, ↓i_20_2, ↓w_20_2, ↓a_21, ↓s_21, ↓l_21, ↓a_22, ↓s_22, ↓l_22, ↓o_23, ↓i_23_0, ↓i_23_1, ↓i_23_2, ↓w_23_2, ↓a_24, ↓s_24, ↓l_24, ↓a_25, ↓s_25, ↓l_25, ↓a_26, ↓s_26, ↓l_26, ↓a_27, ↓s_27, ↓l_27, ↓a_28, ↓s_28, ↓l_28, ↓o_29, ↓i_29_0, ↓i_29_1, ↓i_29_2, ↓i_29_3, ↓w_29_3, ↓i_29_4, ↓w_29_4, ↓i_29_5, ↓w_29_5, ↓i_29_6, ↓w_29_6, ↓a_30, ↓s_30, ↓l_30, ↓a_31, ↓s_31, ↓l_31, ↓o_32, ↓i_32_0, ↓i_32_1, ↓i_32_2, ↓i_32_3, ↓i_32_4, ↓i_32_5, ↓i_32_6, ↓i_32_7, ↓i_32_8, ↓i_32_9, ↓w_32_9, ↓i_32_10, ↓w_32_10, ↓i_32_11, ↓w_32_11, ↓i_32_12, ↓w_32_12, ↓i_32_13, ↓w_32_13, ↓o_34, ↓i_34_0, ↓i_34_1, ↓w_34_1, ↓i_34_2, ↓w_34_2, ↓a_35, ↓s_35, ↓l_35, ↓o_36, ↓i_36_0, ↓i_36_1, ↓w_36_1, ↓i_36_2, ↓w_36_2, ↓a_37, ↓s_37, ↓l_37, ↓o_38, ↓i_38_0, ↓i_38_1, ↓w_38_1, ↓i_38_2, ↓w_38_2, ↓a_39, ↓s_39, ↓l_39, ↓o_40, ↓i_40_0, ↓i_40_1, ↓w_40_1, ↓i_40_2, ↓w_40_2, ↓a_41, ↓s_41, ↓l_41, ↓o_42, ↓i_42_0, ↓i_42_1, ↓w_42_1, ↓i_42_2, ↓w_42_2, ↓a_43, ↓s_43, ↓l_43, ↓o_44, ↓i_44_0, ↓i_44_1, ↓w_44_1, ↓i_44_2, ↓w_44_2, ↓a_45, ↓s_45, ↓l_45, ↓o_46, ↓i_46_0, ↓i_46_1, ↓w_46_1, ↓i_46_2, ↓w_46_2, ↓a_47, ↓s_47, ↓l_47, ↓a_49, ↓s_49, ↓l_49, ↓a_50, ↓s_50, ↓l_50, ↓a_51, ↓s_51, ↓l_51, ↓a_52, ↓s_52, ↓l_52, ↓a_53, ↓s_53, ↓l_53, ↓a_54, ↓s_54, ↓l_54, ↓a_55, ↓s_55, ↓l_55, ↓a_56, ↓s_56, ↓l_56, ↓a_57, ↓s_57, ↓l_57, ↓a_58, ↓s_58, ↓l_58, ↓o_59, ↓i_59_0, ↓i_59_1, ↓i_59_3, ↓w_59_3, ↓o_60, ↓i_60_0, ↓i_60_1, ↓i_60_2, ↓w_60_2, ↓a_61, ↓s_61, ↓l_61, ↓a_62, ↓s_62, ↓l_62, ↓o_63, ↓i_63_0, ↓i_63_1, ↓w_63_1, ↓i_63_2, ↓w_63_2, ↓i_63_3, ↓w_63_3, ↓i_63_4, ↓w_63_4, ↓a_64, ↓s_64, ↓l_64, ↓o_66, ↓i_66_0, ↓i_66_1, ↓w_66_1, ↓i_66_2, ↓w_66_2, ↓a_67, ↓s_67, ↓l_67, ↓o_68, ↓i_68_0, ↓i_68_1, ↓w_68_1, ↓i_68_2, ↓w_68_2, ↓a_69, ↓s_69, ↓l_69, ↓o_70, ↓i_70_0, ↓i_70_1, ↓w_70_1, ↓i_70_2, ↓w_70_2, ↓a_71, ↓s_71, ↓l_71, ↓o_72, ↓i_72_0, ↓i_72_1, ↓w_72_1, ↓i_72_2, ↓w_72_2, ↓a_73, ↓s_73, ↓l_73, ↓a_74, ↓s_74, ↓l_74, ↓o_75, ↓i_75_0, ↓i_75_1, ↓i_75_2, ↓i_75_3, ↓w_75_3, ↓i_75_4, ↓i_75_5, ↓w_75_5, ↓i_75_6, ↓w_75_6, ↓i_75_7, ↓w_75_7, ↓i_75_8, ↓w_75_8, ↓i_75_9, ↓i_75_10, ↓i_75_11, ↓i_75_12, ↓i_75_13, ↓w_75_13, ↓i_75_14, ↓w_75_14, ↓i_75_15, ↓w_75_15, ↓i_75_16, ↓w_75_16, ↓i_75_17, ↓i_75_18, ↓i_75_19, ↓i_75_20, ↓i_75_21, ↓w_75_21, ↓i_75_22, ↓w_75_22, ↓i_75_23, ↓w_75_23, ↓i_75_24, ↓w_75_24, ↓i_75_25, ↓w_75_25, ↓i_75_26, ↓w_75_26, ↓i_75_27, ↓i_75_28, ↓w_75_28, ↓i_75_29, ↓w_75_29, ↓i_75_30, ↓i_75_31, ↓i_75_32, ↓i_75_33, ↓a_76, ↓s_76, ↓l_76, ↓a_77, ↓s_77, ↓l_77, ↓a_78, ↓s_78, ↓l_78, ↓a_79, ↓s_79, ↓l_79, ↓a_80, ↓s_80, ↓l_80, ↓a_81, ↓s_81, ↓l_81, ↓a_82, ↓s_82, ↓l_82, ↓a_83, ↓s_83, ↓l_83, ↓a_84, ↓s_84, ↓l_84, ↓a_85, ↓s_85, ↓l_85, ↓a_86, ↓s_86, ↓l_86, ↓a_87, ↓s_87, ↓l_87, ↓a_88, ↓s_88, ↓l_88, ↓a_89, ↓s_89, ↓l_89, ↓a_90, ↓s_90, ↓l_90, ↓a_91, ↓s_91, ↓l_91, ↓a_92, ↓s_92, ↓l_92, ↓r_33, ↓l_33, ↓r_48, ↓l_48, ↓r_65, ↓l_65, ↓h_o, ↓h_i1, ↓h_w1, ↓h_i2, ↓h_w2, ↓h_r0, ↓h_a0, ↓h_s0, ↓h_l0, ↓sh_o, ↓sh_i1, ↓sh_w1, ↓sh_i2, ↓sh_w2, ↓sh_r0, ↓sh_a0, ↓sh_s0, ↓sh_l0, ↓tx_o, ↓tx_i2, ↓tx_w2, ↓tx_r0, ↓tx_a0, ↓tx_s0, ↓tx_l0, ↓tx_r1, ↓tx_a1, ↓tx_s1, ↓tx_l1, Int.reduceNeg, Int.reduceAdd, Int.reduceSub, Int.reduceMul, Int.reduceLT, Int.reduceLE, Int.reduceEq, Int.reduceNe, Int.reduceToNat, Nat.reduceAdd, Nat.reduceMul, Nat.reduceSub, Nat.reduceDiv, Nat.reduceMod, Nat.reduceEqDiff, Nat.reduceLT, Nat.reduceLeDiff, ↓reduceIte, and_true, true_and, and_self, false_and, and_false, not_false_eq_true, not_true_eq_false, true_or, or_true, or_false, false_or, Int.toNat_natCast, tn_a, tn_s, tn_m, lit_ii, ii_add, ii_sub, ii_mul, ii_neg, ii_lt, ii_le, ii_inj, inb_ii, ix_ii, cin_ii, ii_mn, ii_mx, stn, sty, san, say, hpc_3, hpc_17, hpc_34, hpc_36, hpc_38, hpc_40, hpc_42, hpc_44, hpc_46, shc_66, shc_68, shc_70, shc_72, txc_6, txc_9, txc_20, txc_23, txc_60, ↓u_b_Bx_commonDivisor_34]
      rw [hg]
    · simp (disch := first | omega | assumption | (simp (disch := omega) only [lit_ii, ii_add, ii_sub, ii_mul, ii_neg, ii_lt, ii_le, ii_inj, inb_ii, ix_ii, cin_ii, stn, sty, san, say, Int.toNat_natCast, tn_a, tn_s, tn_m, true_or, or_true, not_false_eq_true, Int.reduceToNat, Nat.reduceAdd, Nat.reduceMul, hpc_3, hpc_17, hpc_34, hpc_36, hpc_38, hpc_40, hpc_42, hpc_44, hpc_46, shc_66, shc_68, shc_70, shc_72, txc_6, txc_9, txc_20, txc_23, txc_60] <;> omega) | fail) only [↓wp_cG, ↓wp_rt, ↓wp_itep, ↓wp_iten, ↓wp_toI, ↓wp_toV, ↓wp_toQ, ↓wp_toQn, ↓wp_toR, ↓wp_toJ, ↓wp_oN, ↓wp_oNn, ↓wp_ltI, ↓wp_ltJ, ↓wp_swp, ↓wp_swd, ↓wp_swn, ↓wp_bit, ↓wp_ex, ↓wp_bL, ↓wx_bA, ↓wx_tb, ↓wx_sc, ↓wx_dv, ↓wp_sl, ↓o_0, ↓i_0_0, ↓i_0_1, ↓i_0_2, ↓i_0_3, ↓i_0_4, ↓i_0_5, ↓i_0_6, ↓i_0_7, ↓i_0_8, ↓w_0_8, ↓o_1, ↓i_1_0, ↓i_1_1, ↓i_1_2, ↓i_1_3, ↓i_1_4, ↓i_1_5, ↓i_1_6, ↓i_1_7, ↓i_1_8, ↓w_1_8, ↓i_1_9, ↓w_1_9, ↓i_1_10, ↓w_1_10, ↓i_1_11, ↓w_1_11, ↓i_1_12, ↓w_1_12, ↓i_1_13, ↓w_1_13, ↓i_1_14, ↓w_1_14, ↓i_1_15, ↓w_1_15, ↓a_2, ↓s_2, ↓l_2, ↓o_3, ↓i_3_0, ↓i_3_1, ↓w_3_1, ↓i_3_2, ↓w_3_2, ↓a_4, ↓s_4, ↓l_4, ↓a_5, ↓s_5, ↓l_5, ↓o_6, ↓i_6_0, ↓i_6_1, ↓i_6_2, ↓w_6_2, ↓a_7, ↓s_7, ↓l_7, ↓a_8, ↓s_8, ↓l_8, ↓o_9, ↓i_9_0, ↓i_9_1, ↓i_9_2, ↓w_9_2, ↓a_10, ↓s_10, ↓l_10, ↓a_11, ↓s_11, ↓l_11, ↓a_12, ↓s_12, ↓l_12, ↓a_13, ↓s_13, ↓l_13, ↓a_14, ↓s_14, ↓l_14, ↓o_15, ↓i_15_0, ↓i_15_1, ↓i_15_2, ↓i_15_3, ↓i_15_4, ↓i_15_5, ↓i_15_6, ↓i_15_7, ↓i_15_8, ↓w_15_8, ↓i_15_9, ↓w_15_9, ↓i_15_10, ↓w_15_10, ↓i_15_11, ↓w_15_11, ↓i_15_12, ↓w_15_12, ↓i_15_13, ↓w_15_13, ↓i_15_14, ↓w_15_14, ↓i_15_15, ↓w_15_15, ↓a_16, ↓s_16, ↓l_16, ↓o_17, ↓i_17_0, ↓i_17_1, ↓w_17_1, ↓i_17_2, ↓w_17_2, ↓a_18, ↓s_18, ↓l_18, ↓a_19, ↓s_19, ↓l_19, ↓o_20, ↓i_20_0, ↓i_20_1, ↓i_20_2, ↓w_20_2, ↓a_21, ↓s_21, ↓l_21, ↓a_22, ↓s_22, ↓l_22, ↓o_23, ↓i_23_0, ↓i_23_1, ↓i_23_2, ↓w_23_2, ↓a_24, ↓s_24, ↓l_24, ↓a_25, ↓s_25, ↓l_25, ↓a_26, ↓s_26, ↓l_26, ↓a_27, ↓s_27, ↓l_27, ↓a_28, ↓s_28, ↓l_28, ↓o_29, ↓i_29_0, ↓i_29_1, ↓i_29_2, ↓i_29_3, ↓w_29_3, ↓i_29_4, ↓w_29_4, ↓i_29_5, ↓w_29_5, ↓i_29_6, ↓w_29_6, ↓a_30, ↓s_30, ↓l_30, ↓a_31, ↓s_31, ↓l_31, ↓o_32, ↓i_32_0, ↓i_32_1, ↓i_32_2, ↓i_32_3, ↓i_32_4, ↓i_32_5, ↓i_32_6, ↓i_32_7, ↓i_32_8, ↓i_32_9, ↓w_32_9, ↓i_32_10, ↓w_32_10, ↓i_32_11, ↓w_32_11, ↓i_32_12, ↓w_32_12, ↓i_32_13, ↓w_32_13, ↓o_34, ↓i_34_0, ↓i_34_1, ↓w_34_1, ↓i_34_2, ↓w_34_2, ↓a_35, ↓s_35, ↓l_35, ↓o_36, ↓i_36_0, ↓i_36_1, ↓w_36_1, ↓i_36_2, ↓w_36_2, ↓a_37, ↓s_37, ↓l_37, ↓o_38, ↓i_38_0, ↓i_38_1, ↓w_38_1, ↓i_38_2, ↓w_38_2, ↓a_39, ↓s_39, ↓l_39, ↓o_40, ↓i_40_0, ↓i_40_1, ↓w_40_1, ↓i_40_2, ↓w_40_2, ↓a_41, ↓s_41, ↓l_41, ↓o_42, ↓i_42_0, ↓i_42_1, ↓w_42_1, ↓i_42_2, ↓w_42_2, ↓a_43, ↓s_43, ↓l_43, ↓o_44, ↓i_44_0, ↓i_44_1, ↓w_44_1, ↓i_44_2, ↓w_44_2, ↓a_45, ↓s_45, ↓l_45, ↓o_46, ↓i_46_0, ↓i_46_1, ↓w_46_1, ↓i_46_2, ↓w_46_2, ↓a_47, ↓s_47, ↓l_47, ↓a_49, ↓s_49, ↓l_49, ↓a_50, ↓s_50, ↓l_50, ↓a_51, ↓s_51, ↓l_51, ↓a_52, ↓s_52, ↓l_52, ↓a_53, ↓s_53, ↓l_53, ↓a_54, ↓s_54, ↓l_54, ↓a_55, ↓s_55, ↓l_55, ↓a_56, ↓s_56, ↓l_56, ↓a_57, ↓s_57, ↓l_57, ↓a_58, ↓s_58, ↓l_58, ↓o_59, ↓i_59_0, ↓i_59_1, ↓i_59_3, ↓w_59_3, ↓o_60, ↓i_60_0, ↓i_60_1, ↓i_60_2, ↓w_60_2, ↓a_61, ↓s_61, ↓l_61, ↓a_62, ↓s_62, ↓l_62, ↓o_63, ↓i_63_0, ↓i_63_1, ↓w_63_1, ↓i_63_2, ↓w_63_2, ↓i_63_3, ↓w_63_3, ↓i_63_4, ↓w_63_4, ↓a_64, ↓s_64, ↓l_64, ↓o_66, ↓i_66_0, ↓i_66_1, ↓w_66_1, ↓i_66_2, ↓w_66_2, ↓a_67, ↓s_67, ↓l_67, ↓o_68, ↓i_68_0, ↓i_68_1, ↓w_68_1, ↓i_68_2, ↓w_68_2, ↓a_69, ↓s_69, ↓l_69, ↓o_70, ↓i_70_0, ↓i_70_1, ↓w_70_1, ↓i_70_2, ↓w_70_2, ↓a_71, ↓s_71, ↓l_71, ↓o_72, ↓i_72_0, ↓i_72_1, ↓w_72_1, ↓i_72_2, ↓w_72_2, ↓a_73, ↓s_73, ↓l_73, ↓a_74, ↓s_74, ↓l_74, ↓o_75, ↓i_75_0, ↓i_75_1, ↓i_75_2, ↓i_75_3, ↓w_75_3, ↓i_75_4, ↓i_75_5, ↓w_75_5, ↓i_75_6, ↓w_75_6, ↓i_75_7, ↓w_75_7, ↓i_75_8, ↓w_75_8, ↓i_75_9, ↓i_75_10, ↓i_75_11, ↓i_75_12, ↓i_75_13, ↓w_75_13, ↓i_75_14, ↓w_75_14, ↓i_75_15, ↓w_75_15, ↓i_75_16, ↓w_75_16, ↓i_75_17, ↓i_75_18, ↓i_75_19, ↓i_75_20, ↓i_75_21, ↓w_75_21, ↓i_75_22, ↓w_75_22, ↓i_75_23, ↓w_75_23, ↓i_75_24, ↓w_75_24, ↓i_75_25, ↓w_75_25, ↓i_75_26, ↓w_75_26, ↓i_75_27, ↓i_75_28, ↓w_75_28, ↓i_75_29, ↓w_75_29, ↓i_75_30, ↓i_75_31, ↓i_75_32, ↓i_75_33, ↓a_76, ↓s_76, ↓l_76, ↓a_77, ↓s_77, ↓l_77, ↓a_78, ↓s_78, ↓l_78, ↓a_79, ↓s_79, ↓l_79, ↓a_80, ↓s_80, ↓l_80, ↓a_81, ↓s_81, ↓l_81, ↓a_82, ↓s_82, ↓l_82, ↓a_83, ↓s_83, ↓l_83, ↓a_84, ↓s_84, ↓l_84, ↓a_85, ↓s_85, ↓l_85, ↓a_86, ↓s_86, ↓l_86, ↓a_87, ↓s_87, ↓l_87, ↓a_88, ↓s_88, ↓l_88, ↓a_89, ↓s_89, ↓l_89, ↓a_90, ↓s_90, ↓l_90, ↓a_91, ↓s_91, ↓l_91, ↓a_92, ↓s_92, ↓l_92, ↓r_33, ↓l_33, ↓r_48, ↓l_48, ↓r_65, ↓l_65, ↓h_o, ↓h_i1, ↓h_w1, ↓h_i2, ↓h_w2, ↓h_r0, ↓h_a0, ↓h_s0, ↓h_l0, ↓sh_o, ↓sh_i1, ↓sh_w1, ↓sh_i2, ↓sh_w2, ↓sh_r0, ↓sh_a0, ↓sh_s0, ↓sh_l0, ↓tx_o, ↓tx_i2, ↓tx_w2, ↓tx_r0, ↓tx_a0, ↓tx_s0, ↓tx_l0, ↓tx_r1, ↓tx_a1, ↓tx_s1, ↓tx_l1, Int.reduceNeg, Int.reduceAdd, Int.reduceSub, Int.reduceMul, Int.reduceLT, Int.reduceLE, Int.reduceEq, Int.reduceNe, Int.reduceToNat, Nat.reduceAdd, Nat.reduceMul, Nat.reduceSub, Nat.reduceDiv, Nat.reduceMod, Nat.reduceEqDiff, Nat.reduceLT, Nat.reduceLeDiff, ↓reduceIte, and_true, true_and, and_self, false_and, and_false, not_false_eq_true, not_true_eq_false, true_or, or_true, or_false, false_or, Int.toNat_natCast, tn_a, tn_s, tn_m, lit_ii, ii_add, ii_sub, ii_mul, ii_neg, ii_lt, ii_le, ii_inj, inb_ii, ix_ii, cin_ii, ii_mn, ii_mx, stn, sty, san, say, hpc_3, hpc_17, hpc_34, hpc_36, hpc_38, hpc_40, hpc_42, hpc_44, hpc_46, shc_66, shc_68, shc_70, shc_72, txc_6, txc_9, txc_20, txc_23, txc_60, ↓u_b_Bx_commonDivisor_34]
      rw [hg]
  · have hk2 : 1 ≤ k := by
      rcases hk with ⟨k1, k2⟩ | ⟨k1, k2, k3⟩
      · cases k with
        | zero => have : lgn 0 = 1 := rfl; omega
        | succ k => omega
      · cases k with
        | zero => have : lgn 0 = 1 := rfl; omega
        | succ k => omega
    have hn : 1 ≤ n := by
      rcases hk with ⟨k1, k2⟩ | ⟨k1, k2, k3⟩
      · omega
      · omega
    obtain ⟨n, rfl⟩ : ∃ e, n = e + 1 := ⟨n - 1, by omega⟩
    have e1 := ii_divnn (a := x) (b := y) (by omega) (by omega)
    have e2 := mod_eqI (a := x) (b := y)
    have hm := Nat.mod_lt x (show 0 < y by omega)
    simp (disch := first | omega | assumption | (simp (disch := omega) only [lit_ii, ii_add, ii_sub, ii_mul, ii_neg, ii_lt, ii_le, ii_inj, inb_ii, ix_ii, cin_ii, stn, sty, san, say, Int.toNat_natCast, tn_a, tn_s, tn_m, true_or, or_true, not_false_eq_true, Int.reduceToNat, Nat.reduceAdd, Nat.reduceMul, hpc_3, hpc_17, hpc_34, hpc_36, hpc_38, hpc_40, hpc_42, hpc_44, hpc_46, shc_66, shc_68, shc_70, shc_72, txc_6, txc_9, txc_20, txc_23, txc_60, e1, e2] <;> omega) | fail) only [↓wp_cG, ↓wp_rt, ↓wp_itep, ↓wp_iten, ↓wp_toI, ↓wp_toV, ↓wp_toQ, ↓wp_toQn, ↓wp_toR, ↓wp_toJ, ↓wp_oN, ↓wp_oNn, ↓wp_ltI, ↓wp_ltJ, ↓wp_swp, ↓wp_swd, ↓wp_swn, ↓wp_bit, ↓wp_ex, ↓wp_bL, ↓wx_bA, ↓wx_tb, ↓wx_sc, ↓wx_dv, ↓wp_sl, ↓o_0, ↓i_0_0, ↓i_0_1, ↓i_0_2, ↓i_0_3, ↓i_0_4, ↓i_0_5, ↓i_0_6, ↓i_0_7, ↓i_0_8, ↓w_0_8, ↓o_1, ↓i_1_0, ↓i_1_1, ↓i_1_2, ↓i_1_3, ↓i_1_4, ↓i_1_5, ↓i_1_6, ↓i_1_7, ↓i_1_8, ↓w_1_8, ↓i_1_9, ↓w_1_9, ↓i_1_10, ↓w_1_10, ↓i_1_11, ↓w_1_11, ↓i_1_12, ↓w_1_12, ↓i_1_13, ↓w_1_13, ↓i_1_14, ↓w_1_14, ↓i_1_15, ↓w_1_15, ↓a_2, ↓s_2, ↓l_2, ↓o_3, ↓i_3_0, ↓i_3_1, ↓w_3_1, ↓i_3_2, ↓w_3_2, ↓a_4, ↓s_4, ↓l_4, ↓a_5, ↓s_5, ↓l_5, ↓o_6, ↓i_6_0, ↓i_6_1, ↓i_6_2, ↓w_6_2, ↓a_7, ↓s_7, ↓l_7, ↓a_8, ↓s_8, ↓l_8, ↓o_9, ↓i_9_0, ↓i_9_1, ↓i_9_2, ↓w_9_2, ↓a_10, ↓s_10, ↓l_10, ↓a_11, ↓s_11, ↓l_11, ↓a_12, ↓s_12, ↓l_12, ↓a_13, ↓s_13, ↓l_13, ↓a_14, ↓s_14, ↓l_14, ↓o_15, ↓i_15_0, ↓i_15_1, ↓i_15_2, ↓i_15_3, ↓i_15_4, ↓i_15_5, ↓i_15_6, ↓i_15_7, ↓i_15_8, ↓w_15_8, ↓i_15_9, ↓w_15_9, ↓i_15_10, ↓w_15_10, ↓i_15_11, ↓w_15_11, ↓i_15_12, ↓w_15_12, ↓i_15_13, ↓w_15_13, ↓i_15_14, ↓w_15_14, ↓i_15_15, ↓w_15_15, ↓a_16, ↓s_16, ↓l_16, ↓o_17, ↓i_17_0, ↓i_17_1, ↓w_17_1, ↓i_17_2, ↓w_17_2, ↓a_18, ↓s_18, ↓l_18, ↓a_19, ↓s_19, ↓l_19, ↓o_20, ↓i_20_0, ↓i_20_1, ↓i_20_2, ↓w_20_2, ↓a_21, ↓s_21, ↓l_21, ↓a_22, ↓s_22, ↓l_22, ↓o_23, ↓i_23_0, ↓i_23_1, ↓i_23_2, ↓w_23_2, ↓a_24, ↓s_24, ↓l_24, ↓a_25, ↓s_25, ↓l_25, ↓a_26, ↓s_26, ↓l_26, ↓a_27, ↓s_27, ↓l_27, ↓a_28, ↓s_28, ↓l_28, ↓o_29, ↓i_29_0, ↓i_29_1, ↓i_29_2, ↓i_29_3, ↓w_29_3, ↓i_29_4, ↓w_29_4, ↓i_29_5, ↓w_29_5, ↓i_29_6, ↓w_29_6, ↓a_30, ↓s_30, ↓l_30, ↓a_31, ↓s_31, ↓l_31, ↓o_32, ↓i_32_0, ↓i_32_1, ↓i_32_2, ↓i_32_3, ↓i_32_4, ↓i_32_5, ↓i_32_6, ↓i_32_7, ↓i_32_8, ↓i_32_9, ↓w_32_9, ↓i_32_10, ↓w_32_10, ↓i_32_11, ↓w_32_11, ↓i_32_12, ↓w_32_12, ↓i_32_13, ↓w_32_13, ↓o_34, ↓i_34_0, ↓i_34_1, ↓w_34_1, ↓i_34_2, ↓w_34_2, ↓a_35, ↓s_35, ↓l_35, ↓o_36, ↓i_36_0, ↓i_36_1, ↓w_36_1, ↓i_36_2, ↓w_36_2, ↓a_37, ↓s_37, ↓l_37, ↓o_38, ↓i_38_0, ↓i_38_1, ↓w_38_1, ↓i_38_2, ↓w_38_2, ↓a_39, ↓s_39, ↓l_39, ↓o_40, ↓i_40_0, ↓i_40_1, ↓w_40_1, ↓i_40_2, ↓w_40_2, ↓a_41, ↓s_41, ↓l_41, ↓o_42, ↓i_42_0, ↓i_42_1, ↓w_42_1, ↓i_42_2, ↓w_42_2, ↓a_43, ↓s_43, ↓l_43, ↓o_44, ↓i_44_0, ↓i_44_1, ↓w_44_1, ↓i_44_2, ↓w_44_2, ↓a_45, ↓s_45, ↓l_45, ↓o_46, ↓i_46_0, ↓i_46_1, ↓w_46_1, ↓i_46_2, ↓w_46_2, ↓a_47, ↓s_47, ↓l_47, ↓a_49, ↓s_49, ↓l_49, ↓a_50, ↓s_50, ↓l_50, ↓a_51, ↓s_51, ↓l_51, ↓a_52, ↓s_52, ↓l_52, ↓a_53, ↓s_53, ↓l_53, ↓a_54, ↓s_54, ↓l_54, ↓a_55, ↓s_55, ↓l_55, ↓a_56, ↓s_56, ↓l_56, ↓a_57, ↓s_57, ↓l_57, ↓a_58, ↓s_58, ↓l_58, ↓o_59, ↓i_59_0, ↓i_59_1, ↓i_59_3, ↓w_59_3, ↓o_60, ↓i_60_0, ↓i_60_1, ↓i_60_2, ↓w_60_2, ↓a_61, ↓s_61, ↓l_61, ↓a_62, ↓s_62, ↓l_62, ↓o_63, ↓i_63_0, ↓i_63_1, ↓w_63_1, ↓i_63_2, ↓w_63_2, ↓i_63_3, ↓w_63_3, ↓i_63_4, ↓w_63_4, ↓a_64, ↓s_64, ↓l_64, ↓o_66, ↓i_66_0, ↓i_66_1, ↓w_66_1, ↓i_66_2, ↓w_66_2, ↓a_67, ↓s_67, ↓l_67, ↓o_68, ↓i_68_0, ↓i_68_1, ↓w_68_1, ↓i_68_2, ↓w_68_2, ↓a_69, ↓s_69, ↓l_69, ↓o_70, ↓i_70_0, ↓i_70_1, ↓w_70_1, ↓i_70_2, ↓w_70_2, ↓a_71, ↓s_71, ↓l_71, ↓o_72, ↓i_72_0, ↓i_72_1, ↓w_72_1, ↓i_72_2, ↓w_72_2, ↓a_73, ↓s_73, ↓l_73, ↓a_74, ↓s_74, ↓l_74, ↓o_75, ↓i_75_0, ↓i_75_1, ↓i_75_2, ↓i_75_3, ↓w_75_3, ↓i_75_4, ↓i_75_5, ↓w_75_5, ↓i_75_6, ↓w_75_6, ↓i_75_7, ↓w_75_7, ↓i_75_8, ↓w_75_8, ↓i_75_9, ↓i_75_10, ↓i_75_11, ↓i_75_12, ↓i_75_13, ↓w_75_13, ↓i_75_14, ↓w_75_14, ↓i_75_15, ↓w_75_15, ↓i_75_16, ↓w_75_16, ↓i_75_17, ↓i_75_18, ↓i_75_19, ↓i_75_20, ↓i_75_21, ↓w_75_21, ↓i_75_22, ↓w_75_22, ↓i_75_23, ↓w_75_23, ↓i_75_24, ↓w_75_24, ↓i_75_25, ↓w_75_25, ↓i_75_26, ↓w_75_26, ↓i_75_27, ↓i_75_28, ↓w_75_28, ↓i_75_29, ↓w_75_29, ↓i_75_30, ↓i_75_31, ↓i_75_32, ↓i_75_33, ↓a_76, ↓s_76, ↓l_76, ↓a_77, ↓s_77, ↓l_77, ↓a_78, ↓s_78, ↓l_78, ↓a_79, ↓s_79, ↓l_79, ↓a_80, ↓s_80, ↓l_80, ↓a_81, ↓s_81, ↓l_81, ↓a_82, ↓s_82, ↓l_82, ↓a_83, ↓s_83, ↓l_83, ↓a_84, ↓s_84, ↓l_84, ↓a_85, ↓s_85, ↓l_85, ↓a_86, ↓s_86, ↓l_86, ↓a_87, ↓s_87, ↓l_87, ↓a_88, ↓s_88, ↓l_88, ↓a_89, ↓s_89, ↓l_89, ↓a_90, ↓s_90, ↓l_90, ↓a_91, ↓s_91, ↓l_91, ↓a_92, ↓s_92, ↓l_92, ↓r_33, ↓l_33, ↓r_48, ↓l_48, ↓r_65, ↓l_65, ↓h_o, ↓h_i1, ↓h_w1, ↓h_i2, ↓h_w2, ↓h_r0, ↓h_a0, ↓h_s0, ↓h_l0, ↓sh_o, ↓sh_i1, ↓sh_w1, ↓sh_i2, ↓sh_w2, ↓sh_r0, ↓sh_a0, ↓sh_s0, ↓sh_l0, ↓tx_o, ↓tx_i2, ↓tx_w2, ↓tx_r0, ↓tx_a0, ↓tx_s0, ↓tx_l0, ↓tx_r1, ↓tx_a1, ↓tx_s1, ↓tx_l1, Int.reduceNeg, Int.reduceAdd, Int.reduceSub, Int.reduceMul, Int.reduceLT, Int.reduceLE, Int.reduceEq, Int.reduceNe, Int.reduceToNat, Nat.reduceAdd, Nat.reduceMul, Nat.reduceSub, Nat.reduceDiv, Nat.reduceMod, Nat.reduceEqDiff, Nat.reduceLT, Nat.reduceLeDiff, ↓reduceIte, and_true, true_and, and_self, false_and, and_false, not_false_eq_true, not_true_eq_false, true_or, or_true, or_false, false_or, Int.toNat_natCast, tn_a, tn_s, tn_m, lit_ii, ii_add, ii_sub, ii_mul, ii_neg, ii_lt, ii_le, ii_inj, inb_ii, ix_ii, cin_ii, ii_mn, ii_mx, stn, sty, san, say, hpc_3, hpc_17, hpc_34, hpc_36, hpc_38, hpc_40, hpc_42, hpc_44, hpc_46, shc_66, shc_68, shc_70, shc_72, txc_6, txc_9, txc_20, txc_23, txc_60, e1, e2]
    refine hK n _ I' J' (by omega) ⟨rfl, rfl, y, x % y, i + 1, ?_⟩
    have g2 : Nat.gcd y (x % y) = Nat.gcd a b := by rw [← hg, Nat.gcd_comm x y, Nat.gcd_rec y x, Nat.gcd_comm]
    rcases hk with ⟨k1, k2⟩ | ⟨k1, k2, k3⟩
    · exact ⟨k, rfl, hy, by omega, g2, by omega, Or.inr ⟨hm, k1, by omega⟩⟩
    · obtain ⟨k, rfl⟩ : ∃ e, k = e + 1 := ⟨k - 1, by omega⟩
      have hh := mod_half k1 (by omega)
      have hl : lgn (k + 1) = 2 * lgn k := rfl
      exact ⟨k, rfl, hy, by omega, g2, by omega, Or.inl ⟨by omega, by omega⟩⟩
theorem divisorM {a b : Nat} {I : Mem} {J : Nat → Int64} (ha : a ≤ 1296) (hb : b ≤ 1296) (Q : Option Value → HP → Prop) : wp (f_Mo_divisor (jj a) (jj b)) Q (M I J) = Q (some (.long (jj (Nat.gcd a b : Nat)))) (M I J) := by
  refine wp_det ?_ Q
  rw [u_f_Mo_divisor]
  unfold b_Mo_divisor_6
  refine wp_loop (fun n q I' J' => I' = I ∧ J' = J ∧ ∃ x y : Nat, q = (jj x, jj y) ∧ x ≤ 1296 ∧ y ≤ 1296 ∧ Nat.gcd x y = Nat.gcd a b ∧ y = n) ?_ (n := b) ⟨rfl, rfl, a, b, rfl, ha, hb, rfl, rfl⟩ (by omega)
  rintro n q I' J' ⟨rfl, rfl, x, y, rfl, hx, hy, hg, rfl⟩ K' hK
  try dsimp only
  have hz := lg_z (b := y) (by omega)
  by_cases c : y = 0
  · subst c
    have hgx : Nat.gcd x 0 = x := Nat.gcd_zero_right x
    rw [hgx] at hg
    have hz1 : lg_cmp (jj ((0 : Nat) : Int)) 0 = 0 := by rw [hz]
    rw [wp_itep hz1, wp_rt]
    exact ⟨by rw [hg], rfl⟩
  · have hz1 : ¬ lg_cmp (jj (y : Int)) 0 = 0 := by rw [hz]; exact c
    rw [wp_iten hz1, wp_dvl (jj_ne (by omega) c), wp_ltJ, jj_divn (by omega) (by omega), jj_mul, jj_sub, mod_eqI]
    have hm := Nat.mod_lt x (show 0 < y by omega)
    have g2 : Nat.gcd y (x % y) = Nat.gcd a b := by rw [← hg, Nat.gcd_comm x y, Nat.gcd_rec y x, Nat.gcd_comm]
    exact hK _ _ I' J' hm ⟨rfl, rfl, y, x % y, rfl, hy, by omega, g2, rfl⟩
