def pst (pu : Nat → Nat) (t : Nat) : Nat → Nat := fun x => if x = t then (if pu t + 1 ≤ 99 then pu t + 1 else 99) else pu x
def pin (hs : List Nat) (pu : Nat → Nat) : List Nat → Nat → Nat
  | [] => pu
  | p :: gs => pin hs (pst pu (hs.getD p 0 / 2)) gs
theorem pst_ok {pu : Nat → Nat} {t : Nat} (h : ∀ x, x < 6 → pu x ≤ 99) : ∀ x, x < 6 → pst pu t x ≤ 99 := by
  intro x hx
  unfold pst
  split
  · split <;> omega
  · exact h x hx
theorem drop_nat {gs : List Nat} {i : Nat} (h : i < gs.length) : gs.drop i = gs.getD i 0 :: gs.drop (i + 1) := by
  rw [List.drop_eq_getElem_cons h, List.getD_eq_getElem?_getD, List.getElem?_eq_getElem h]; rfl
theorem mks_cons {hs gs : List Nat} {p : Nat} : mks hs (p :: gs) = hs.getD p 0 % 2 + mks hs gs := rfl
theorem goInC {W : Nat → Nat} {tk kd : Nat} {I : Mem} {J : Nat → Int64} {hs gs : List Nat} {due : Int} {np p : Nat} {pu : Nat → Nat} {mk : Int32} {Q : Option Value → HP → Prop} (hco : coins hs) (hG : GV W I hs gs due) (hg : gOK W kd hs gs 0) (h12 : I 1 12 = ii np) (hnp : np ≤ 6) (hp : p < np) (hpu : ∀ x, x < 6 → pu x ≤ 99) (h1 : ∀ x, x < 6 → I 12 (6 * p + x) = ii (pu x)) (h2 : I 5 p = mk) (K : ∀ I', (∀ x, x < 6 → I' 12 (6 * p + x) = ii (pin hs pu gs x)) → (∀ x, x < 6 → pin hs pu gs x ≤ 99) → I' 5 p = mk + ii (mks hs gs) → (∀ c k, ¬ ((c = 12 ∧ 6 * p ≤ k ∧ k < 6 * p + 6) ∨ (c = 5 ∧ k = p)) → I' c k = I c k) → Q (some (.int (ii (tot W hs gs)))) (M I' J)) : wp (b_Bx_go_75 0 (ii p) (ii 0)) Q (M I J) := by
  have hl := hco.1
  have hgl : gs.length ≤ hs.length := by have := hg.2; omega
  obtain ⟨⟨s1, s2, s3, s4⟩, s5⟩ := hG
  unfold b_Bx_go_75
  refine wp_loop (fun n q I' J' => J' = J ∧ ∃ (i : Nat) (pv : Nat → Nat) (mv : Int32), q = ii i ∧ i + n = gs.length ∧ (∀ x, x < 6 → pv x ≤ 99) ∧ (∀ x, x < 6 → I' 12 (6 * p + x) = ii (pv x)) ∧ pin hs pv (gs.drop i) = pin hs pu gs ∧ I' 5 p = mv ∧ mv + ii (mks hs (gs.drop i)) = mk + ii (mks hs gs) ∧ (∀ c k, ¬ ((c = 12 ∧ 6 * p ≤ k ∧ k < 6 * p + 6) ∨ (c = 5 ∧ k = p)) → I' c k = I c k)) ?_ (n := gs.length) ⟨rfl, 0, pu, mk, rfl, by omega, hpu, h1, rfl, h2, rfl, fun _ _ _ => rfl⟩ (by omega)
  rintro n q I' J' ⟨rfl, i, pv, mv, rfl, hi, hpv, hv, hpi, hm, hms, hf⟩ K' hK
  have s1' : I' 29 3 = ii gs.length := by rw [hf _ _ (by omega), s1]
  have s2' : I' 29 4 = ii (tot W hs gs) := by rw [hf _ _ (by omega), s2]
  have h12' : I' 1 12 = ii np := by rw [hf _ _ (by omega), h12]
  try dsimp only
  cases n with
  | zero =>
    have hi : i = gs.length := by omega
    subst hi
    rw [List.drop_length] at hpi hms
    have hpi : pv = pin hs pu gs := hpi
    have z : mks hs [] = 0 := rfl
    rw [z] at hms
    simp (disch := first | omega | assumption | (simp (disch := omega) only [lit_ii, ii_add, ii_sub, ii_mul, ii_neg, ii_lt, ii_le, ii_inj, inb_ii, ix_ii, cin_ii, stn, sty, san, say, Int.toNat_natCast, tn_a, tn_s, tn_m, true_or, or_true, not_false_eq_true, Int.reduceToNat, Nat.reduceAdd, Nat.reduceMul, hpc_3, hpc_17, hpc_34, hpc_36, hpc_38, hpc_40, hpc_42, hpc_44, hpc_46, shc_66, shc_68, shc_70, shc_72, txc_6, txc_9, txc_20, txc_23, txc_60, s1', s2'] <;> omega) | fail) only [↓wp_cG, ↓wp_rt, ↓wp_itep, ↓wp_iten, ↓wp_toI, ↓wp_toV, ↓wp_toQ, ↓wp_toQn, ↓wp_toR, ↓wp_toJ, ↓wp_oN, ↓wp_oNn, ↓wp_ltI, ↓wp_ltJ, ↓wp_swp, ↓wp_swd, ↓wp_swn, ↓wp_bit, ↓wp_ex, ↓wp_bL, ↓wx_bA, ↓wx_tb, ↓wx_sc, ↓wx_dv, ↓wp_sl, ↓o_0, ↓i_0_0, ↓i_0_1, ↓i_0_2, ↓i_0_3, ↓i_0_4, ↓i_0_5, ↓i_0_6, ↓i_0_7, ↓i_0_8, ↓w_0_8, ↓o_1, ↓i_1_0, ↓i_1_1, ↓i_1_2, ↓i_1_3, ↓i_1_4, ↓i_1_5, ↓i_1_6, ↓i_1_7, ↓i_1_8, ↓w_1_8, ↓i_1_9, ↓w_1_9, ↓i_1_10, ↓w_1_10, ↓i_1_11, ↓w_1_11, ↓i_1_12, ↓w_1_12, ↓i_1_13, ↓w_1_13, ↓i_1_14, ↓w_1_14, ↓i_1_15, ↓w_1_15, ↓a_2, ↓s_2, ↓l_2, ↓o_3, ↓i_3_0, ↓i_3_1, ↓w_3_1, ↓i_3_2, ↓w_3_2, ↓a_4, ↓s_4, ↓l_4, ↓a_5, ↓s_5, ↓l_5, ↓o_6, ↓i_6_0, ↓i_6_1, ↓i_6_2, ↓w_6_2, ↓a_7, ↓s_7, ↓l_7, ↓a_8, ↓s_8, ↓l_8, ↓o_9, ↓i_9_0, ↓i_9_1, ↓i_9_2, ↓w_9_2, ↓a_10, ↓s_10, ↓l_10, ↓a_11, ↓s_11, ↓l_11, ↓a_12, ↓s_12, ↓l_12, ↓a_13, ↓s_13, ↓l_13, ↓a_14, ↓s_14, ↓l_14, ↓o_15, ↓i_15_0, ↓i_15_1, ↓i_15_2, ↓i_15_3, ↓i_15_4, ↓i_15_5, ↓i_15_6, ↓i_15_7, ↓i_15_8, ↓w_15_8, ↓i_15_9, ↓w_15_9, ↓i_15_10, ↓w_15_10, ↓i_15_11, ↓w_15_11, ↓i_15_12, ↓w_15_12, ↓i_15_13, ↓w_15_13, ↓i_15_14, ↓w_15_14, ↓i_15_15, ↓w_15_15, ↓a_16, ↓s_16, ↓l_16, ↓o_17, ↓i_17_0, ↓i_17_1, ↓w_17_1, ↓i_17_2, ↓w_17_2, ↓a_18, ↓s_18, ↓l_18, ↓a_19, ↓s_19, ↓l_19, ↓o_20, ↓i_20_0, ↓i_20_1, ↓i_20_2, ↓w_20_2, ↓a_21, ↓s_21, ↓l_21, ↓a_22, ↓s_22, ↓l_22, ↓o_23, ↓i_23_0, ↓i_23_1, ↓i_23_2, ↓w_23_2, ↓a_24, ↓s_24, ↓l_24, ↓a_25, ↓s_25, ↓l_25, ↓a_26, ↓s_26, ↓l_26, ↓a_27, ↓s_27, ↓l_27, ↓a_28, ↓s_28, ↓l_28, ↓o_29, ↓i_29_0, ↓i_29_1, ↓i_29_2, ↓i_29_3, ↓w_29_3, ↓i_29_4, ↓w_29_4, ↓i_29_5, ↓w_29_5, ↓i_29_6, ↓w_29_6, ↓a_30, ↓s_30, ↓l_30, ↓a_31, ↓s_31, ↓l_31, ↓o_32, ↓i_32_0, ↓i_32_1, ↓i_32_2, ↓i_32_3, ↓i_32_4, ↓i_32_5, ↓i_32_6, ↓i_32_7, ↓i_32_8, ↓i_32_9, ↓w_32_9, ↓i_32_10, ↓w_32_10, ↓i_32_11, ↓w_32_11, ↓i_32_12, ↓w_32_12, ↓i_32_13, ↓w_32_13, ↓o_34, ↓i_34_0, ↓i_34_1, ↓w_34_1, ↓i_34_2, ↓w_34_2, ↓a_35, ↓s_35, ↓l_35, ↓o_36, ↓i_36_0, ↓i_36_1, ↓w_36_1, ↓i_36_2, ↓w_36_2, ↓a_37, ↓s_37, ↓l_37, ↓o_38, ↓i_38_0, ↓i_38_1, ↓w_38_1, ↓i_38_2, ↓w_38_2, ↓a_39, ↓s_39, ↓l_39, ↓o_40, ↓i_40_0, ↓i_40_1, ↓w_40_1, ↓i_40_2, ↓w_40_2, ↓a_41, ↓s_41, ↓l_41, ↓o_42, ↓i_42_0, ↓i_42_1, ↓w_42_1, ↓i_42_2, ↓w_42_2, ↓a_43, ↓s_43, ↓l_43, ↓o_44, ↓i_44_0, ↓i_44_1, ↓w_44_1, ↓i_44_2, ↓w_44_2, ↓a_45, ↓s_45, ↓l_45, ↓o_46, ↓i_46_0, ↓i_46_1, ↓w_46_1, ↓i_46_2, ↓w_46_2, ↓a_47, ↓s_47, ↓l_47, ↓a_49, ↓s_49, ↓l_49, ↓a_50, ↓s_50, ↓l_50, ↓a_51, ↓s_51, ↓l_51, ↓a_52, ↓s_52, ↓l_52, ↓a_53, ↓s_53, ↓l_53, ↓a_54, ↓s_54, ↓l_54, ↓a_55, ↓s_55, ↓l_55, ↓a_56, ↓s_56, ↓l_56, ↓a_57, ↓s_57, ↓l_57, ↓a_58, ↓s_58, ↓l_58, ↓o_59, ↓i_59_0, ↓i_59_1, ↓i_59_3, ↓w_59_3, ↓o_60, ↓i_60_0, ↓i_60_1, ↓i_60_2, ↓w_60_2, ↓a_61, ↓s_61, ↓l_61, ↓a_62, ↓s_62, ↓l_62, ↓o_63, ↓i_63_0, ↓i_63_1, ↓w_63_1, ↓i_63_2, ↓w_63_2, ↓i_63_3, ↓w_63_3, ↓i_63_4, ↓w_63_4, ↓a_64, ↓s_64, ↓l_64, ↓o_66, ↓i_66_0, ↓i_66_1, ↓w_66_1, ↓i_66_2, ↓w_66_2, ↓a_67, ↓s_67, ↓l_67, ↓o_68, ↓i_68_0, ↓i_68_1, ↓w_68_1, ↓i_68_2, ↓w_68_2, ↓a_69, ↓s_69, ↓l_69, ↓o_70, ↓i_70_0, ↓i_70_1, ↓w_70_1, ↓i_70_2, ↓w_70_2, ↓a_71, ↓s_71, ↓l_71, ↓o_72, ↓i_72_0, ↓i_72_1, ↓w_72_1, ↓i_72_2, ↓w_72_2, ↓a_73, ↓s_73, ↓l_73, ↓a_74, ↓s_74, ↓l_74, ↓o_75, ↓i_75_0, ↓i_75_1, ↓i_75_2, ↓i_75_3, ↓w_75_3, ↓i_75_4, ↓i_75_5, ↓w_75_5, ↓i_75_6, ↓w_75_6, ↓i_75_7, ↓w_75_7, ↓i_75_8, ↓w_75_8, ↓i_75_9, ↓i_75_10, ↓i_75_11, ↓i_75_12, ↓i_75_13, ↓w_75_13, ↓i_75_14, ↓w_75_14, ↓i_75_15, ↓w_75_15, ↓i_75_16, ↓w_75_16, ↓i_75_17, ↓i_75_18, ↓i_75_19, ↓i_75_20, ↓i_75_21, ↓w_75_21, ↓i_75_22, ↓w_75_22, ↓i_75_23, ↓w_75_23, ↓i_75_24, ↓w_75_24, ↓i_75_25, ↓w_75_25, ↓i_75_26, ↓w_75_26, ↓i_75_27, ↓i_75_28, ↓w_75_28, ↓i_75_29, ↓w_75_29, ↓i_75_30, ↓i_75_31, ↓i_75_32, ↓i_75_33, ↓a_76, ↓s_76, ↓l_76, ↓a_77, ↓s_77, ↓l_77, ↓a_78, ↓s_78, ↓l_78, ↓a_79, ↓s_79, ↓l_79, ↓a_80, ↓s_80, ↓l_80, ↓a_81, ↓s_81, ↓l_81, ↓a_82, ↓s_82, ↓l_82, ↓a_83, ↓s_83, ↓l_83, ↓a_84, ↓s_84, ↓l_84, ↓a_85, ↓s_85, ↓l_85, ↓a_86, ↓s_86, ↓l_86, ↓a_87, ↓s_87, ↓l_87, ↓a_88, ↓s_88, ↓l_88, ↓a_89, ↓s_89, ↓l_89, ↓a_90, ↓s_90, ↓l_90, ↓a_91, ↓s_91, ↓l_91, ↓a_92, ↓s_92, ↓l_92, ↓r_33, ↓l_33, ↓r_48, ↓l_48, ↓r_65, ↓l_65, ↓h_o, ↓h_i1, ↓h_w1, ↓h_i2, ↓h_w2, ↓h_r0, ↓h_a0, ↓h_s0, ↓h_l0, ↓sh_o, ↓sh_i1, ↓sh_w1, ↓sh_i2, ↓sh_w2, ↓sh_r0, ↓sh_a0, ↓sh_s0, ↓sh_l0, ↓tx_o, ↓tx_i2, ↓tx_w2, ↓tx_r0, ↓tx_a0, ↓tx_s0, ↓tx_l0, ↓tx_r1, ↓tx_a1, ↓tx_s1, ↓tx_l1, Int.reduceNeg, Int.reduceAdd, Int.reduceSub, Int.reduceMul, Int.reduceLT, Int.reduceLE, Int.reduceEq, Int.reduceNe, Int.reduceToNat, Nat.reduceAdd, Nat.reduceMul, Nat.reduceSub, Nat.reduceDiv, Nat.reduceMod, Nat.reduceEqDiff, Nat.reduceLT, Nat.reduceLeDiff, ↓reduceIte, and_true, true_and, and_self, false_and, and_false, not_false_eq_true, not_true_eq_false, true_or, or_true, or_false, false_or, Int.toNat_natCast, tn_a, tn_s, tn_m, lit_ii, ii_add, ii_sub, ii_mul, ii_neg, ii_lt, ii_le, ii_inj, inb_ii, ix_ii, cin_ii, ii_mn, ii_mx, stn, sty, san, say, hpc_3, hpc_17, hpc_34, hpc_36, hpc_38, hpc_40, hpc_42, hpc_44, hpc_46, shc_66, shc_68, shc_70, shc_72, txc_6, txc_9, txc_20, txc_23, txc_60, s1', s2', ↓u_f_Ch_sum, ↓u_f_Ch_size]
    refine K I' (fun x hx => by rw [← hpi]; exact hv x hx) (fun x hx => by rw [← hpi]; exact hpv x hx) ?_ hf
    rw [hm, ← hms]
    obtain ⟨z, _, _, rfl⟩ := ii_ex mv
    rw [ii_add]
    exact eq_ii (by omega)
  | succ n =>
    have hi2 : i < gs.length := by omega
    have e := s5 i hi2
    rw [← hf 30 i (by omega)] at e
    have hmem : gs.getD i 0 ∈ gs := by
      rw [List.getD_eq_getElem?_getD, List.getElem?_eq_getElem hi2]
      exact List.getElem_mem _
    have hq := (hg.1 _ hmem).1
    have hx := hco.2 _ hq
    obtain ⟨x, hxx⟩ : ∃ x, x = hs.getD (gs.getD i 0) 0 := ⟨_, rfl⟩
    rw [← hxx] at e hx
    have q1 := cc_nn x
    have q2 := cc_lt hx
    have q3 := cc_mod x
    have ht : x / 2 < 6 := by omega
    have v0 := hv (x / 2) ht
    rw [Nat.mul_comm 6 p] at v0
    have vb := hpv (x / 2) ht
    rw [drop_nat hi2] at hpi hms
    have hpi : pin hs (pst pv (hs.getD (gs.getD i 0) 0 / 2)) (gs.drop (i + 1)) = pin hs pu gs := hpi
    rw [← hxx] at hpi
    rw [mks_cons, ← hxx] at hms
    simp (disch := first | omega | assumption | (simp (disch := omega) only [lit_ii, ii_add, ii_sub, ii_mul, ii_neg, ii_lt, ii_le, ii_inj, inb_ii, ix_ii, cin_ii, stn, sty, san, say, Int.toNat_natCast, tn_a, tn_s, tn_m, true_or, or_true, not_false_eq_true, Int.reduceToNat, Nat.reduceAdd, Nat.reduceMul, hpc_3, hpc_17, hpc_34, hpc_36, hpc_38, hpc_40, hpc_42, hpc_44, hpc_46, shc_66, shc_68, shc_70, shc_72, txc_6, txc_9, txc_20, txc_23, txc_60, s1', e, h12', ii_divn, cc_div, q3, v0, hm] <;> omega) | fail) only [↓wp_cG, ↓wp_rt, ↓wp_itep, ↓wp_iten, ↓wp_toI, ↓wp_toV, ↓wp_toQ, ↓wp_toQn, ↓wp_toR, ↓wp_toJ, ↓wp_oN, ↓wp_oNn, ↓wp_ltI, ↓wp_ltJ, ↓wp_swp, ↓wp_swd, ↓wp_swn, ↓wp_bit, ↓wp_ex, ↓wp_bL, ↓wx_bA, ↓wx_tb, ↓wx_sc, ↓wx_dv, ↓wp_sl, ↓o_0, ↓i_0_0, ↓i_0_1, ↓i_0_2, ↓i_0_3, ↓i_0_4, ↓i_0_5, ↓i_0_6, ↓i_0_7, ↓i_0_8, ↓w_0_8, ↓o_1, ↓i_1_0, ↓i_1_1, ↓i_1_2, ↓i_1_3, ↓i_1_4, ↓i_1_5, ↓i_1_6, ↓i_1_7, ↓i_1_8, ↓w_1_8, ↓i_1_9, ↓w_1_9, ↓i_1_10, ↓w_1_10, ↓i_1_11, ↓w_1_11, ↓i_1_12, ↓w_1_12, ↓i_1_13, ↓w_1_13, ↓i_1_14, ↓w_1_14, ↓i_1_15, ↓w_1_15, ↓a_2, ↓s_2, ↓l_2, ↓o_3, ↓i_3_0, ↓i_3_1, ↓w_3_1, ↓i_3_2, ↓w_3_2, ↓a_4, ↓s_4, ↓l_4, ↓a_5, ↓s_5, ↓l_5, ↓o_6, ↓i_6_0, ↓i_6_1, ↓i_6_2, ↓w_6_2, ↓a_7, ↓s_7, ↓l_7, ↓a_8, ↓s_8, ↓l_8, ↓o_9, ↓i_9_0, ↓i_9_1, ↓i_9_2, ↓w_9_2, ↓a_10, ↓s_10, ↓l_10, ↓a_11, ↓s_11, ↓l_11, ↓a_12, ↓s_12, ↓l_12, ↓a_13, ↓s_13, ↓l_13, ↓a_14, ↓s_14, ↓l_14, ↓o_15, ↓i_15_0, ↓i_15_1, ↓i_15_2, ↓i_15_3, ↓i_15_4, ↓i_15_5, ↓i_15_6, ↓i_15_7, ↓i_15_8, ↓w_15_8, ↓i_15_9, ↓w_15_9, ↓i_15_10, ↓w_15_10, ↓i_15_11, ↓w_15_11, ↓i_15_12, ↓w_15_12, ↓i_15_13, ↓w_15_13, ↓i_15_14, ↓w_15_14, ↓i_15_15, ↓w_15_15, ↓a_16, ↓s_16, ↓l_16, ↓o_17, ↓i_17_0, ↓i_17_1, ↓w_17_1, ↓i_17_2, ↓w_17_2, ↓a_18, ↓s_18, ↓l_18, ↓a_19, ↓s_19, ↓l_19, ↓o_20, ↓i_20_0, ↓i_20_1, ↓i_20_2, ↓w_20_2, ↓a_21, ↓s_21, ↓l_21, ↓a_22, ↓s_22, ↓l_22, ↓o_23, ↓i_23_0, ↓i_23_1, ↓i_23_2, ↓w_23_2, ↓a_24, ↓s_24, ↓l_24, ↓a_25, ↓s_25, ↓l_25, ↓a_26, ↓s_26, ↓l_26, ↓a_27, ↓s_27, ↓l_27, ↓a_28, ↓s_28, ↓l_28, ↓o_29, ↓i_29_0, ↓i_29_1, ↓i_29_2, ↓i_29_3, ↓w_29_3, ↓i_29_4, ↓w_29_4, ↓i_29_5, ↓w_29_5, ↓i_29_6, ↓w_29_6, ↓a_30, ↓s_30, ↓l_30, ↓a_31, ↓s_31, ↓l_31, ↓o_32, ↓i_32_0, ↓i_32_1, ↓i_32_2, ↓i_32_3, ↓i_32_4, ↓i_32_5, ↓i_32_6, ↓i_32_7, ↓i_32_8, ↓i_32_9, ↓w_32_9, ↓i_32_10, ↓w_32_10, ↓i_32_11, ↓w_32_11, ↓i_32_12, ↓w_32_12, ↓i_32_13, ↓w_32_13, ↓o_34, ↓i_34_0, ↓i_34_1, ↓w_34_1, ↓i_34_2, ↓w_34_2, ↓a_35, ↓s_35, ↓l_35, ↓o_36, ↓i_36_0, ↓i_36_1, ↓w_36_1, ↓i_36_2, ↓w_36_2, ↓a_37, ↓s_37, ↓l_37, ↓o_38, ↓i_38_0, ↓i_38_1, ↓w_38_1, ↓i_38_2, ↓w_38_2, ↓a_39, ↓s_39, ↓l_39, ↓o_40, ↓i_40_0, ↓i_40_1, ↓w_40_1, ↓i_40_2, ↓w_40_2, ↓a_41, ↓s_41, ↓l_41, ↓o_42, ↓i_42_0, ↓i_42_1, ↓w_42_1, ↓i_42_2, ↓w_42_2, ↓a_43, ↓s_43, ↓l_43, ↓o_44, ↓i_44_0, ↓i_44_1, ↓w_44_1, ↓i_44_2, ↓w_44_2, ↓a_45, ↓s_45, ↓l_45, ↓o_46, ↓i_46_0, ↓i_46_1, ↓w_46_1, ↓i_46_2, ↓w_46_2, ↓a_47, ↓s_47, ↓l_47, ↓a_49, ↓s_49, ↓l_49, ↓a_50, ↓s_50, ↓l_50, ↓a_51, ↓s_51, ↓l_51, ↓a_52, ↓s_52, ↓l_52, ↓a_53, ↓s_53, ↓l_53, ↓a_54, ↓s_54, ↓l_54, ↓a_55, ↓s_55, ↓l_55, ↓a_56, ↓s_56, ↓l_56, ↓a_57, ↓s_57, ↓l_57, ↓a_58, ↓s_58, ↓l_58, ↓o_59, ↓i_59_0, ↓i_59_1, ↓i_59_3, ↓w_59_3, ↓o_60, ↓i_60_0, ↓i_60_1, ↓i_60_2, ↓w_60_2, ↓a_61, ↓s_61, ↓l_61, ↓a_62, ↓s_62, ↓l_62, ↓o_63, ↓i_63_0, ↓i_63_1, ↓w_63_1, ↓i_63_2, ↓w_63_2, ↓i_63_3, ↓w_63_3, ↓i_63_4, ↓w_63_4, ↓a_64, ↓s_64, ↓l_64, ↓o_66, ↓i_66_0, ↓i_66_1, ↓w_66_1, ↓i_66_2, ↓w_66_2, ↓a_67, ↓s_67, ↓l_67, ↓o_68, ↓i_68_0, ↓i_68_1, ↓w_68_1, ↓i_68_2, ↓w_68_2, ↓a_69, ↓s_69, ↓l_69, ↓o_70, ↓i_70_0, ↓i_70_1, ↓w_70_1, ↓i_70_2, ↓w_70_2, ↓a_71, ↓s_71, ↓l_71, ↓o_72, ↓i_72_0, ↓i_72_1, ↓w_72_1, ↓i_72_2, ↓w_72_2, ↓a_73, ↓s_73, ↓l_73, ↓a_74, ↓s_74, ↓l_74, ↓o_75, ↓i_75_0, ↓i_75_1, ↓i_75_2, ↓i_75_3, ↓w_75_3, ↓i_75_4, ↓i_75_5, ↓w_75_5, ↓i_75_6, ↓w_75_6, ↓i_75_7, ↓w_75_7, ↓i_75_8, ↓w_75_8, ↓i_75_9, ↓i_75_10, ↓i_75_11, ↓i_75_12, ↓i_75_13, ↓w_75_13, ↓i_75_14, ↓w_75_14, ↓i_75_15, ↓w_75_15, ↓i_75_16, ↓w_75_16, ↓i_75_17, ↓i_75_18, ↓i_75_19, ↓i_75_20, ↓i_75_21, ↓w_75_21, ↓i_75_22, ↓w_75_22, ↓i_75_23, ↓w_75_23, ↓i_75_24, ↓w_75_24, ↓i_75_25, ↓w_75_25, ↓i_75_26, ↓w_75_26, ↓i_75_27, ↓i_75_28, ↓w_75_28, ↓i_75_29, ↓w_75_29, ↓i_75_30, ↓i_75_31, ↓i_75_32, ↓i_75_33, ↓a_76, ↓s_76, ↓l_76, ↓a_77, ↓s_77, ↓l_77, ↓a_78, ↓s_78, ↓l_78, ↓a_79, ↓s_79, ↓l_79, ↓a_80, ↓s_80, ↓l_80, ↓a_81, ↓s_81, ↓l_81, ↓a_82, ↓s_82, ↓l_82, ↓a_83, ↓s_83, ↓l_83, ↓a_84, ↓s_84, ↓l_84, ↓a_85, ↓s_85, ↓l_85, ↓a_86, ↓s_86, ↓l_86, ↓a_87, ↓s_87, ↓l_87, ↓a_88, ↓s_88, ↓l_88, ↓a_89, ↓s_89, ↓l_89, ↓a_90, ↓s_90, ↓l_90, ↓a_91, ↓s_91, ↓l_91, ↓a_92, ↓s_92, ↓l_92, ↓r_33, ↓l_33, ↓r_48, ↓l_48, ↓r_65, ↓l_65, ↓h_o, ↓h_i1, ↓h_w1, ↓h_i2, ↓h_w2, ↓h_r0, ↓h_a0, ↓h_s0, ↓h_l0, ↓sh_o, ↓sh_i1, ↓sh_w1, ↓sh_i2, ↓sh_w2, ↓sh_r0, ↓sh_a0, ↓sh_s0, ↓sh_l0, ↓tx_o, ↓tx_i2, ↓tx_w2, ↓tx_r0, ↓tx_a0, ↓tx_s0, ↓tx_l0, ↓tx_r1, ↓tx_a1, ↓tx_s1, ↓tx_l1, Int.reduceNeg, Int.reduceAdd, Int.reduceSub, Int.reduceMul, Int.reduceLT, Int.reduceLE, Int.reduceEq, Int.reduceNe, Int.reduceToNat, Nat.reduceAdd, Nat.reduceMul, Nat.reduceSub, Nat.reduceDiv, Nat.reduceMod, Nat.reduceEqDiff, Nat.reduceLT, Nat.reduceLeDiff, ↓reduceIte, and_true, true_and, and_self, false_and, and_false, not_false_eq_true, not_true_eq_false, true_or, or_true, or_false, false_or, Int.toNat_natCast, tn_a, tn_s, tn_m, lit_ii, ii_add, ii_sub, ii_mul, ii_neg, ii_lt, ii_le, ii_inj, inb_ii, ix_ii, cin_ii, ii_mn, ii_mx, stn, sty, san, say, hpc_3, hpc_17, hpc_34, hpc_36, hpc_38, hpc_40, hpc_42, hpc_44, hpc_46, shc_66, shc_68, shc_70, shc_72, txc_6, txc_9, txc_20, txc_23, txc_60, s1', e, h12', ii_divn, cc_div, q3, v0, hm, ↓u_f_Ha_comesToPurse, ↓u_f_Ha_setCoins, ↓u_f_Ha_isSort, ↓u_b_Ha_isSort_15, ↓u_b_Ha_isSort_14, ↓u_f_Ha_isPerson, ↓u_b_Ha_isPerson_23, ↓u_b_Ha_isPerson_22, ↓u_b_Ha_setCoins_32, ↓u_f_Ha_coinsOf, ↓u_b_Ha_coinsOf_30, ↓u_b_Ha_coinsOf_29, ↓u_b_Ha_comesToPurse_41, ↓u_f_Ch_at, ↓u_b_Ch_at_31, ↓u_b_Ch_at_30, ↓u_f_Ch_size]
    refine hK n _ _ J' (by omega) ⟨rfl, i + 1, pst pv (x / 2), mv + ii ((x % 2 : Nat) : Int), rfl, by omega, pst_ok hpv, fun y hy => ?_, hpi, ?_, ?_, fun c k hx => ?_⟩
    · by_cases ey : y = x / 2
      · subst ey
        rw [stn (by omega), sty (by omega)]
        unfold pst
        rw [if_pos rfl]
        exact eq_ii (by split <;> split <;> omega)
      · rw [stn (by omega), stn (by omega), hv y hy]
        unfold pst
        rw [if_neg ey]
    · rw [sty (by omega)]
    · rw [← hms]
      obtain ⟨z, _, _, rfl⟩ := ii_ex mv
      rw [ii_add, ii_add, ii_add]
      exact eq_ii (by omega)
    · rw [stn (by omega), stn (by omega), hf c k hx]
