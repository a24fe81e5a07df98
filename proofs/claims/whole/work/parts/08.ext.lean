/-! ===== null or a cell; longs in fields; texts that were there before ===== -/
def ltI (e : Int32) (F : Int32 → HP → RS) : HP → RS := F e
def ltJ (e : Int64) (F : Int64 → HP → RS) : HP → RS := F e
def rJ (c ci k : Nat) (F : Int64 → HP → RS) : HP → RS := rF c ci k (fun v => match v with
  | .long y => F y
  | _ => fun _ => none)
def exT (c : Nat) (F : HP → RS) : HP → RS := fun x => if 1002 ≤ c ∧ c < 1005 then F x else none
def bLen (c : Nat) : Nat := kLen.getD (c - 1005) 0
def bByt (c j : Nat) : Int32 := (kByt.getD (c - 1005) []).getD j 0
def bL (c : Nat) (F : Int32 → HP → RS) : HP → RS := fun x => if 1005 ≤ c ∧ c < 1008 then F (Int32.ofNat (bLen c)) x else none
def bA (c : Nat) (i : Int32) (F : Int32 → HP → RS) : HP → RS := fun x => if (1005 ≤ c ∧ c < 1008) ∧ ¬ (i < 0 ∨ bLen c ≤ i.toNatClampNeg) then F (bByt c i.toNatClampNeg) x else none
section EXTR
variable {Γ : GG → Prop} {dp : Nat} {cc : ByteArray} {own : String} {nL : Nat} {ret : Option FieldType} {ini : Bool} {a b : Nat} {L : List (Option Value)} {st : List Value} {F F1 F2 : HP → RS}
theorem ct_none {dp' mL' : Nat} {y : MethodName} {cc' : ByteArray} {ret' : Option FieldType} {av : List Value} : Ct dp' y cc' mL' ret' av (fun _ => none) := ⟨(fun x v z h => nomatch h), (fun l G x v z h => nomatch h)⟩
theorem gt_ltI {e : Int32} {st : Int32 → List Value} {F : Int32 → HP → RS} (K : ∀ w, GT Γ dp cc own nL ret ini a L (st w) (F w)) : GT Γ dp cc own nL ret ini a L (st e) (ltI e F) := K e
theorem gt_ltJ {e : Int64} {st : Int64 → List Value} {F : Int64 → HP → RS} (K : ∀ w, GT Γ dp cc own nL ret ini a L (st w) (F w)) : GT Γ dp cc own nL ret ini a L (st e) (ltJ e F) := K e
theorem gt_oN {q : Option Nat} {L : Option Nat → List (Option Value)} {st : Option Nat → List Value} {A : HP → RS} {B : Nat → HP → RS} (h1 : GT Γ dp cc own nL ret ini a (L none) (st none) A) (h2 : ∀ c, GT Γ dp cc own nL ret ini a (L (some c)) (st (some c)) (B c)) : GT Γ dp cc own nL ret ini a (L q) (st q) (oN q A B) := by
  cases q with
  | none => exact h1
  | some c => exact h2 c
theorem gt_aload_nQ {k : Fin 4} {q : Option Nat} (hd : decode cc a = .ok (.aload_n k, 1)) (hl : L[(k : Nat)]? = some (some (va_rf q))) (K : GT Γ dp cc own nL ret ini (a + 1) L (va_rf q :: st) F) : GT Γ dp cc own nL ret ini a L st F := by
  cases q with
  | some x => exact gt_aload_n hd hl K
  | none => exact gt_pure _ (fun G p l e R s m args below meth c H locs k n Q ls hx hb hL kk => lv_aload_nN hx hb hd rfl (hL.2.2 _ _ hl) (kk ls hL)) K
theorem gt_aloadQ {i : Nat} {q : Option Nat} (hd : decode cc a = .ok (.aload i, 2)) (hl : L[i]? = some (some (va_rf q))) (K : GT Γ dp cc own nL ret ini (a + 2) L (va_rf q :: st) F) : GT Γ dp cc own nL ret ini a L st F := by
  cases q with
  | some x => exact gt_aload hd hl K
  | none => exact gt_pure _ (fun G p l e R s m args below meth c H locs k n Q ls hx hb hL kk => lv_aloadN hx hb hd (hL.2.2 _ _ hl) (kk ls hL)) K
theorem gt_astoreQ_n {L' : List (Option Value)} {k : Fin 4} {q : Option Nat} (hd : decode cc a = .ok (.astore_n k, 1)) (hn : (k : Nat) < nL) (ho : okS L (k : Nat) = true) (hs : setL L (k : Nat) (va_rf q) = L') (K : GT Γ dp cc own nL ret ini (a + 1) L' st F) : GT Γ dp cc own nL ret ini a L (va_rf q :: st) F := by
  cases q with
  | some x => exact gt_astore_n hd hn ho hs K
  | none =>
    subst hs
    exact gt_pure _ (fun G p l e R s m args below meth c H locs k n Q ls hx hb hL kk => lv_astore_nN hx hb hd rfl hL.has hn rfl (fun ls2 h2 => kk ls2 (LH.st1 (v := .null) ho h2))) K
theorem gt_astoreQ {L' : List (Option Value)} {i : Nat} {q : Option Nat} (hd : decode cc a = .ok (.astore i, 2)) (hn : i < nL) (ho : okS L i = true) (hs : setL L i (va_rf q) = L') (K : GT Γ dp cc own nL ret ini (a + 2) L' st F) : GT Γ dp cc own nL ret ini a L (va_rf q :: st) F := by
  cases q with
  | some x => exact gt_astore hd hn ho hs K
  | none =>
    subst hs
    exact gt_pure _ (fun G p l e R s m args below meth c H locs k n Q ls hx hb hL kk => lv_astoreN hx hb hd hL.has hn rfl (fun ls2 h2 => kk ls2 (LH.st1 (v := .null) ho h2))) K
theorem gt_retQ {q : Option Nat} {ty : FieldType} (hr : ret = some ty) (hty : (∃ n, ty = .object n) ∨ ∃ t, ty = .array t) (hd : decode cc a = .ok (.areturn, 1)) : GT Γ dp cc own nL ret ini a L [va_rf q] (rt (some (va_rf q))) :=
  gt_retR hr hty (by cases q with
    | none => exact Or.inl rfl
    | some c => exact Or.inr ⟨c, rfl⟩) hd
theorem gt_retB {v : Int32} (hr : ret = some .byte) (hd : decode cc a = .ok (.ireturn, 1)) : GT Γ dp cc own nL ret ini a L [.int v] (bitT v (rt (some (.int v)))) :=
  gt_bit fun h => gt_retT hr (by rcases h with rfl | rfl <;> decide) hd
theorem gt_rJ {ci N k c index : Nat} {C : String} {T : u_T} {ty0 : Nat → FieldType} {F : Int64 → HP → RS} (hc : CLS ci C T N ty0) (hk : k < N) (hl : Cond.fieldLink own index (T k).1 (T k).2.1 (T k).2.2.1 ∈ TB) (hd : decode cc a = .ok (.getfield index, 3))
    (K : ∀ v, GT Γ dp cc own nL ret ini (a + 3) L (.long v :: st) (F v)) : GT Γ dp cc own nL ret ini a L (.ref c :: st) (rJ c ci k F) := by
  refine gt_rF hc hk hl hd fun v => ?_
  cases v with
  | long y => exact ⟨(K y).1, fun _ => K y⟩
  | _ => exact ⟨(fun x w z h => nomatch h), (fun h => by obtain ⟨_, _, h⟩ := h; cases h)⟩
theorem gt_wJ {ci N k c index : Nat} {C : String} {T : u_T} {ty0 : Nat → FieldType} {v : Int64} (hc : CLS ci C T N ty0) (hk : k < N) (hfin : (T k).2.2.2 = false ∨ ((T k).2.2.2 = true ∧ ini = true ∧ (T k).1 = own)) (hv : ty0 k = .long) (hl : Cond.fieldLink own index (T k).1 (T k).2.1 (T k).2.2.1 ∈ TB) (hd : decode cc a = .ok (.putfield index, 3))
    (K : GT Γ dp cc own nL ret ini (a + 3) L st F) : GT Γ dp cc own nL ret ini a L (.long v :: .ref c :: st) (wF c ci k (.long v) F) := gt_wF hc hk hfin (fun G => by rw [hv]; exact ⟨rfl, rfl⟩) hl hd K
/-! the cases of a switch -/
theorem sk_nil : ∀ q ∈ ([] : List (Int32 × Nat × (HP → RS))), GT Γ dp cc own nL ret ini q.2.1 L st q.2.2 := fun q hq => nomatch hq
theorem sk_cons {k : Int32} {t : Nat} {A : HP → RS} {l : List (Int32 × Nat × (HP → RS))} (h : GT Γ dp cc own nL ret ini t L st A) (r : ∀ q ∈ l, GT Γ dp cc own nL ret ini q.2.1 L st q.2.2) : ∀ q ∈ (k, t, A) :: l, GT Γ dp cc own nL ret ini q.2.1 L st q.2.2 :=
  List.forall_mem_cons.mpr ⟨h, r⟩
/-! String -/
theorem cA_ext {G : GG} {c i : Nat} (h : c = 1000 + i) : cA G c = G.2.1 i := by
  subst h
  unfold cA
  rw [if_neg (by omega), Nat.add_sub_cancel_left]
theorem gt_exT {c : Nat} (K : 1002 ≤ c ∧ c < 1005 → GT Γ dp cc own nL ret ini a L st F) : GT Γ dp cc own nL ret ini a L st (exT c F) := by
  by_cases h : 1002 ≤ c ∧ c < 1005
  · have e : exT c F = F := by funext x; unfold exT; rw [if_pos h]
    rw [e]; exact K h
  · refine ⟨fun x w z hx => ?_, fun G hΓ x0 z w p l e R s m args below meth c C x hx => ?_⟩ <;> (unfold exT at hx; rw [if_neg h] at hx; cases hx)
theorem gt_getsC {index : Nat} (w1 : Cond.fieldLink own index "java/lang/String" "COMPACT_STRINGS" "Z" ∈ TB) (hd : decode cc a = .ok (.getstatic index, 3)) (K : GT Γ dp cc own nL ret ini (a + 3) L (.int 1 :: st) F) : GT Γ dp cc own nL ret ini a L st F :=
  ⟨K.1, fun G hΓ x0 z w p l e R s m args below meth c2 C x hx h0 H locs ls hL hP hS => va_gets C.1 C.2.1 C.2.2.2.2.2.2.2.1.2.1.2.2.2.2.1 hS C.2.2.2.1 (C.2.2.2.2.1 _ w1) (fun _ h => h) hd (K.2 G hΓ x0 z w p l e R s m args below meth c2 C x hx h0 H locs ls hL hP hS)⟩
theorem gt_sVal {c index : Nat} (w1 : Cond.fieldLink own index "java/lang/String" "value" "[B" ∈ TB) (hd : decode cc a = .ok (.getfield index, 3)) (K : GT Γ dp cc own nL ret ini (a + 3) L (.ref (c + 3) :: st) F) : GT Γ dp cc own nL ret ini a L (.ref c :: st) (exT c F) :=
  gt_exT fun hc => ⟨K.1, fun G hΓ x0 z w p l e R s m args below meth c2 C x hx h0 H locs ls hL hP hS => by
    have hE := C.2.2.2.2.2.2.2.1.2.1.2.2.2.2.2.1.1 (c - 1002) (by omega)
    have K2 := K.2 G hΓ x0 z w p l e R s m args below meth c2 C x hx h0 H locs ls hL hP hS
    rw [List.map_cons, show cV G (.ref c) = .ref (G.2.1 (2 + (c - 1002))) by rw [cV, cA_ext (i := 2 + (c - 1002)) (by omega)]]
    refine vk_getf C.1 C.2.1 hE.2.2.1 hS C.2.2.2.1 (C.2.2.2.2.1 _ w1) (fun _ h => h) hd ?_
    rw [List.map_cons, show cV G (.ref (c + 3)) = .ref (G.2.1 (5 + (c - 1002))) by rw [cV, cA_ext (i := 5 + (c - 1002)) (by omega)]] at K2
    exact K2⟩
theorem gt_sCoder {c index : Nat} (w1 : Cond.fieldLink own index "java/lang/String" "coder" "B" ∈ TB) (hd : decode cc a = .ok (.getfield index, 3)) (K : GT Γ dp cc own nL ret ini (a + 3) L (.int 0 :: st) F) : GT Γ dp cc own nL ret ini a L (.ref c :: st) (exT c F) :=
  gt_exT fun hc => ⟨K.1, fun G hΓ x0 z w p l e R s m args below meth c2 C x hx h0 H locs ls hL hP hS => by
    have hE := C.2.2.2.2.2.2.2.1.2.1.2.2.2.2.2.1.1 (c - 1002) (by omega)
    have K2 := K.2 G hΓ x0 z w p l e R s m args below meth c2 C x hx h0 H locs ls hL hP hS
    rw [List.map_cons, show cV G (.ref c) = .ref (G.2.1 (2 + (c - 1002))) by rw [cV, cA_ext (i := 2 + (c - 1002)) (by omega)]]
    exact vk_getf C.1 C.2.1 hE.2.1 hS C.2.2.2.1 (C.2.2.2.2.1 _ w1) (fun _ h => h) hd K2⟩
theorem gt_bL {c : Nat} {F : Int32 → HP → RS} (hd : decode cc a = .ok (.arraylength, 1)) (K : ∀ v, GT Γ dp cc own nL ret ini (a + 1) L (.int v :: st) (F v)) : GT Γ dp cc own nL ret ini a L (.ref c :: st) (bL c F) := by
  by_cases hc : 1005 ≤ c ∧ c < 1008
  · have e : bL c F = F (Int32.ofNat (bLen c)) := by funext x; unfold bL; rw [if_pos hc]
    rw [e]
    refine ⟨(K _).1, fun G hΓ x0 z w p l e R s m args below meth c2 C x hx h0 H locs ls hL hP hS => ?_⟩
    obtain ⟨cell, h1, h2, h3, h4, h5, h6, h7⟩ := va_T.kept (C.2.2.2.2.2.2.2.1.2.1.2.2.2.2.2.1.1 (c - 1005) (by omega)).2.2.2 hS.2.1
    rw [List.map_cons, show cV G (.ref c) = .ref (G.2.1 (5 + (c - 1005))) by rw [cV, cA_ext (i := 5 + (c - 1005)) (by omega)]]
    exact W.alen (n := Int32.ofNat (bLen c)) C.1 C.2.1 h1 h2 h5 rfl rfl hd ((K _).2 G hΓ x0 z w p l e R s m args below meth c2 C x hx h0 H locs ls hL hP hS)
  · refine ⟨fun x w z hx => ?_, fun G hΓ x0 z w p l e R s m args below meth c2 C x hx => ?_⟩ <;> (unfold bL at hx; rw [if_neg hc] at hx; cases hx)
theorem gt_bA {c : Nat} {i : Int32} {F : Int32 → HP → RS} (hd : decode cc a = .ok (.baload, 1)) (K : ∀ v, GT Γ dp cc own nL ret ini (a + 1) L (.int v :: st) (F v)) : GT Γ dp cc own nL ret ini a L (.int i :: .ref c :: st) (bA c i F) := by
  by_cases hc : (1005 ≤ c ∧ c < 1008) ∧ ¬ (i < 0 ∨ bLen c ≤ i.toNatClampNeg)
  · have e : bA c i F = F (bByt c i.toNatClampNeg) := by funext x; unfold bA; rw [if_pos hc]
    rw [e]
    refine ⟨(K _).1, fun G hΓ x0 z w p l e R s m args below meth c2 C x hx h0 H locs ls hL hP hS => ?_⟩
    obtain ⟨cell, h1, h2, h3, h4, h5, h6, h7⟩ := va_T.kept (C.2.2.2.2.2.2.2.1.2.1.2.2.2.2.2.1.1 (c - 1005) (by omega)).2.2.2 hS.2.1
    have hlt : i.toNatClampNeg < bLen c := Nat.not_le.mp fun q => hc.2 (Or.inr q)
    rw [List.map_cons, List.map_cons, show cV G (.ref c) = .ref (G.2.1 (5 + (c - 1005))) by rw [cV, cA_ext (i := 5 + (c - 1005)) (by omega)]]
    exact W.bald (v := .int (bByt c i.toNatClampNeg)) C.1 C.2.1 h1 h2 h3 (fun q => q.elim (fun q => hc.2 (Or.inl q)) (fun q => absurd (Nat.lt_of_lt_of_le hlt h4) (Nat.not_lt.mpr q))) (h6 _ hlt) rfl rfl hd ((K _).2 G hΓ x0 z w p l e R s m args below meth c2 C x hx h0 H locs ls hL hP hS)
  · refine ⟨fun x w z hx => ?_, fun G hΓ x0 z w p l e R s m args below meth c2 C x hx => ?_⟩ <;> (unfold bA at hx; rw [if_neg hc] at hx; cases hx)
theorem gt_ldcS1002 (hd : decode cc a = .ok (.ldc 16, 2)) (ho : own = RX5) (K : GT Γ dp cc own nL ret ini (a + 2) L (.ref 1002 :: st) F) : GT Γ dp cc own nL ret ini a L st F :=
  ⟨K.1, fun G hΓ x0 z w p l e R s m args below meth c2 C x hx h0 H locs ls hL hP hS => by
    subst ho
    exact va_ldcS C.1 C.2.1 C.2.2.2.1 C.2.2.2.2.2.2.2.1.2.2.1 hd (K.2 G hΓ x0 z w p l e R s m args below meth c2 C x hx h0 H locs ls hL hP hS)⟩
theorem gt_ldcS1003 (hd : decode cc a = .ok (.ldc 147, 2)) (ho : own = RX9) (K : GT Γ dp cc own nL ret ini (a + 2) L (.ref 1003 :: st) F) : GT Γ dp cc own nL ret ini a L st F :=
  ⟨K.1, fun G hΓ x0 z w p l e R s m args below meth c2 C x hx h0 H locs ls hL hP hS => by
    subst ho
    exact va_ldcS C.1 C.2.1 C.2.2.2.1 C.2.2.2.2.2.2.2.1.2.2.2.1 hd (K.2 G hΓ x0 z w p l e R s m args below meth c2 C x hx h0 H locs ls hL hP hS)⟩
theorem gt_ldcS1004 (hd : decode cc a = .ok (.ldc 149, 2)) (ho : own = RX9) (K : GT Γ dp cc own nL ret ini (a + 2) L (.ref 1004 :: st) F) : GT Γ dp cc own nL ret ini a L st F :=
  ⟨K.1, fun G hΓ x0 z w p l e R s m args below meth c2 C x hx h0 H locs ls hL hP hS => by
    subst ho
    exact va_ldcS C.1 C.2.1 C.2.2.2.1 C.2.2.2.2.2.2.2.1.2.2.2.2.1 hd (K.2 G hΓ x0 z w p l e R s m args below meth c2 C x hx h0 H locs ls hL hP hS)⟩
set_option maxRecDepth 40000 in
/-- invokevirtual on a text -/
theorem gt_callVS {c index dp' mL' : Nat} {y : MethodName} {cc' : ByteArray} {ret' : Option FieldType} {As : List Value} {g : HP → RS} {F : Option Value → HP → RS} (hCt : Ct dp' y cc' mL' ret' (.ref c :: As) g) (hdp : dp' + 1 ≤ dp) (hm : mL' ≤ 45)
    (w1 : Cond.methodLink own index y ∈ TB) (w2 : Cond.instanceMethod y ∈ TB) (w3 : Cond.selects RJ0 y y ∈ TB) (w4 : Cond.initialized RJ0 ∈ TB) (w5 : Cond.code y cc' mL' ret' ∈ TB) (hy : y.cls ≠ "java/lang/invoke/MethodHandle" ∧ y.cls ≠ "java/lang/invoke/VarHandle" ∧ (parseMethodDescriptor y.desc).map (fun d => d.parameters.length) = some As.length) (hyc : y.cls = RJ0)
    {st0 : List Value} (hst : st0 = As.reverse ++ .ref c :: st) (hcat : (st.map Value.category).sum ≤ 8) (hd : decode cc a = .ok (.invokevirtual index, 3)) (K : KO Γ dp cc own nL ret ini (a + 3) L st F) : GT Γ dp cc own nL ret ini a L st0 (exT c (cG g F)) := by
  refine gt_exT fun hc => ?_
  subst hst
  refine gt_callG hCt hdp hm (fun G hΓ x0 z p l e R s m args below meth c2 C x v y1 h0 m1 m2 hM hR1 hR2 H locs ls hL hP hS hpc => ?_) K
  obtain ⟨q1, q2, q3, q4, q5, q6, q7, q8, q9, q10, q11⟩ := id C
  have hG : GoodIn TB (wsV own index RJ0 y (.code y cc' mL' ret' :: TB)) := by
    intro w hw
    unfold wsV at hw
    rcases List.mem_append.mp hw with hw | hw
    · simp only [List.mem_cons, List.not_mem_nil, or_false] at hw
      have hm : w ∈ TB := by rcases hw with rfl | rfl | rfl | rfl <;> assumption
      exact ⟨hm, good_of_word (List.mem_filter.mp hm).2⟩
    · exact tb_in w5 w hw
  have hcA : cV G (.ref c) = .ref (G.2.1 (2 + (c - 1002))) := by rw [cV, cA_ext (i := 2 + (c - 1002)) (by omega)]
  have hbl : FrameBlind (va_Pc (cV G (.ref c) :: As.map (cV G)) (fun U => RP G x U.heap ∧ KX G U)) := pc_blind (G := G) (x := x) (av := .ref c :: As)
  rw [List.map_cons] at hM hpc
  rw [hcA] at hM hpc hbl
  exact ⟨_, va_runV (e := e) (below := below) (meth := meth) (locs := locs) (H := H) (C := RJ0) (b := G.2.1 (2 + (c - 1002))) (As := As.map (cV G)) (rest := st.map (cV G)) (g := F0 m a ls ((As.reverse ++ .ref c :: st).map (cV G))) ⟨q1, q2, q3, q4, q5⟩ hM (cwV As.length q5 hG rfl rfl rfl ⟨hyc, hy⟩ hR1) ⟨hbl, vk_recv (i := c - 1002) q8.2.1.2.2.2.2.2.1 (by omega) hS, hpc⟩ rfl (by simp) hL.1 (by rw [List.map_append, List.map_reverse, List.map_cons, hcA]) (lv_room (st_cat hcat)) hd hR2⟩
end EXTR
