/-! ===== calls, returns, switches ===== -/
theorem KX.blind {G : GG} {U : State} (h : KX G U) (g : JFrame) (mk : MethodId) (ar : Array Value) : KX G (U.calling g mk ar) := by
  obtain ⟨h1, ⟨e1, e2, e3, e4, e5, e6, e7, e8⟩, w1, w2, w3, w4, w5, w6, w7⟩ := h
  have hvm : U.vm.Alike (U.calling g mk ar).vm := Vm.Alike.refl U.vm
  exact ⟨va_K.moved hvm h1, ⟨va_Z.moved hvm e1, va_T.moved hvm e2, va_Z.moved hvm e3, va_T.moved hvm e4, va_Z.moved hvm e5, vk_S.moved hvm e6, va_X.moved hvm e7, e8⟩, vk_R.same rfl w1, vk_R.same rfl w2, vk_R.same rfl w3, fun q hq => va_Nw.same rfl rfl (w4 q hq), va_AO.moved hvm w5, va_AO.moved hvm w6, zz_AOA.moved hvm w7⟩
theorem pc_blind {G : GG} {x : HP} {av : List Value} : FrameBlind (va_Pc (av.map (cV G)) (fun U => RP G x U.heap ∧ KX G U)) :=
  fun a U g mk q => ⟨q.1, q.2.1, q.2.2.blind g mk a⟩
section AFTER
variable {p : Program} {l : Launch} {e : Env} {R : Room} {s : State} {m : MethodId} {args : Array Value} {below : List Frame} {meth : Method} {c : Code} {H : Heap} {locs : List Loc} {cells slots mc ms : Nat} {Q : State → Prop}
variable {pc : Nat} {ls : Array Slot} {rest st0 : List Value} {a : Array Value} {G : GG} {v : Option Value} {z : HP}
/-- behind a call -/
theorem w_after (hr : va_Run p l e R s m args below meth c H locs cells slots mc ms (F0 m pc ls st0) rest (QE G v z a) (AA G)) (hS : va_S (AA G) s.heap H locs)
    (kk : ∀ (H1 : Heap) (locs1 : List Loc), RP G z H1 → va_S (AA G) s.heap H1 locs1 → W p l e R s m args below meth c H1 locs1 (cells + mc) (slots + ms) Q (F0 m (pc + 3) ls ((v.map (cV G)).toList ++ rest))) : W p l e R s m args below meth c H locs cells slots Q (F0 m pc ls st0) := by
  intro T hT X
  obtain ⟨v1, st₀, t, T', L, h0, X', hL, e1, e2, ⟨hv, hRP, hz, hk⟩, st⟩ := hr T hT X
  cases hv
  rw [h0] at hz hk
  obtain ⟨t2, a1, b1⟩ := kk T'.heap (locs ++ L) (by rw [e1]; exact hRP) ⟨Nat.le_trans hS.1 (by rw [e1]; exact hz), fun q h1 h2 => by
    rw [e1, hk q (Nat.lt_of_lt_of_le h1 hS.1) h2]
    exact hS.2.1 q h1 h2, fun q hq => (List.mem_append.mp hq).elim (hS.2.2 q) (hL q)⟩ T' rfl X'
  exact ⟨t2, st t2 a1, b1⟩
end AFTER
def rt (v : Option Value) : HP → RS := fun x => some (v, x)
/-- a call: what the callee does, then F with its answer -/
def cG (g : HP → RS) (F : Option Value → HP → RS) : HP → RS := fun x => match g x with
  | some (v, y) => F v y
  | none => none
def toI (F : Int32 → HP → RS) (v : Option Value) : HP → RS := match v with
  | some (.int r) => F r
  | _ => fun _ => none
def toJ (F : Int64 → HP → RS) (v : Option Value) : HP → RS := match v with
  | some (.long r) => F r
  | _ => fun _ => none
def toR (F : Nat → HP → RS) (v : Option Value) : HP → RS := match v with
  | some (.ref r) => F r
  | _ => fun _ => none
def toQ (F : Option Nat → HP → RS) (v : Option Value) : HP → RS := match v with
  | some (.ref r) => F (some r)
  | some .null => F none
  | _ => fun _ => none
def toV (F : HP → RS) (v : Option Value) : HP → RS := match v with
  | none => F
  | _ => fun _ => none
/-- the receiver is of its class -/
def obT (c ci : Nat) (F : HP → RS) : HP → RS := fun x => match objF x c ci with
  | some _ => F x
  | none => none
section CALLS
variable {Γ : GG → Prop} {dp : Nat} {cc : ByteArray} {own : String} {nL : Nat} {ret : Option FieldType} {ini : Bool} {a b : Nat} {L : List (Option Value)} {st : List Value} {F F1 F2 : HP → RS}
/-- what the rest does with the callee's answer, for each answer that can come -/
def KO (Γ : GG → Prop) (dp : Nat) (cc : ByteArray) (own : String) (nL : Nat) (ret : Option FieldType) (ini : Bool) (a : Nat) (L : List (Option Value)) (st : List Value) (F : Option Value → HP → RS) : Prop :=
  ∀ v, (∀ y w z, F v y = some (w, z) → y.1 ≤ z.1) ∧ ((∃ y w, F v y = some w) → GT Γ dp cc own nL ret ini a L (v.toList ++ st) (F v))
theorem KO.I {F : Int32 → HP → RS} (K : ∀ r, GT Γ dp cc own nL ret ini a L (.int r :: st) (F r)) : KO Γ dp cc own nL ret ini a L st (toI F) := by
  intro v
  rcases v with _ | v
  · exact ⟨(fun x w z h => nomatch h), (fun h => by obtain ⟨_, _, h⟩ := h; cases h)⟩
  · cases v with
    | int r => exact ⟨(K r).1, fun _ => K r⟩
    | _ => exact ⟨(fun x w z h => nomatch h), (fun h => by obtain ⟨_, _, h⟩ := h; cases h)⟩
theorem KO.J {F : Int64 → HP → RS} (K : ∀ r, GT Γ dp cc own nL ret ini a L (.long r :: st) (F r)) : KO Γ dp cc own nL ret ini a L st (toJ F) := by
  intro v
  rcases v with _ | v
  · exact ⟨(fun x w z h => nomatch h), (fun h => by obtain ⟨_, _, h⟩ := h; cases h)⟩
  · cases v with
    | long r => exact ⟨(K r).1, fun _ => K r⟩
    | _ => exact ⟨(fun x w z h => nomatch h), (fun h => by obtain ⟨_, _, h⟩ := h; cases h)⟩
theorem KO.R {F : Nat → HP → RS} (K : ∀ r, GT Γ dp cc own nL ret ini a L (.ref r :: st) (F r)) : KO Γ dp cc own nL ret ini a L st (toR F) := by
  intro v
  rcases v with _ | v
  · exact ⟨(fun x w z h => nomatch h), (fun h => by obtain ⟨_, _, h⟩ := h; cases h)⟩
  · cases v with
    | ref r => exact ⟨(K r).1, fun _ => K r⟩
    | _ => exact ⟨(fun x w z h => nomatch h), (fun h => by obtain ⟨_, _, h⟩ := h; cases h)⟩
theorem KO.Q {F : Option Nat → HP → RS} (K : ∀ r, GT Γ dp cc own nL ret ini a L (va_rf r :: st) (F r)) : KO Γ dp cc own nL ret ini a L st (toQ F) := by
  intro v
  rcases v with _ | v
  · exact ⟨(fun x w z h => nomatch h), (fun h => by obtain ⟨_, _, h⟩ := h; cases h)⟩
  · cases v with
    | ref r => exact ⟨(K (some r)).1, fun _ => K (some r)⟩
    | null => exact ⟨(K none).1, fun _ => K none⟩
    | _ => exact ⟨(fun x w z h => nomatch h), (fun h => by obtain ⟨_, _, h⟩ := h; cases h)⟩
theorem KO.V {F : HP → RS} (K : GT Γ dp cc own nL ret ini a L st F) : KO Γ dp cc own nL ret ini a L st (toV F) := by
  intro v
  rcases v with _ | v
  · exact ⟨K.1, fun _ => K⟩
  · exact ⟨(fun x w z h => nomatch h), (fun h => by obtain ⟨_, _, h⟩ := h; cases h)⟩
theorem cG_of {g : HP → RS} {F : Option Value → HP → RS} {x : HP} {w : Option Value × HP} (h : cG g F x = some w) : ∃ v y, g x = some (v, y) ∧ F v y = some w := by
  unfold cG at h
  split at h
  · rename_i v y he
    exact ⟨v, y, he, h⟩
  · cases h
theorem obT_of {c ci : Nat} {F : HP → RS} {x : HP} {w : Option Value × HP} (h : obT c ci F x = some w) : ∃ fs, objF x c ci = some fs ∧ F x = some w := by
  unfold obT at h
  split at h
  · rename_i fs he
    exact ⟨fs, he, h⟩
  · cases h
theorem st_cat {G : GG} (h : (st.map Value.category).sum ≤ 8) : ((st.map (cV G)).map fun v => v.category).sum ≤ 8 := by
  have e : ((st.map (cV G)).map fun v => v.category) = st.map Value.category := by rw [List.map_map]; exact List.map_congr_left (fun v _ => cV_cat v)
  rw [e]
  exact h
/-- the common part of a call -/
theorem gt_callG {dp' mL' : Nat} {y : MethodName} {cc' : ByteArray} {ret' : Option FieldType} {av : List Value} {g : HP → RS} {st0 : List Value} {F : Option Value → HP → RS} (hCt : Ct dp' y cc' mL' ret' av g) (hdp : dp' + 1 ≤ dp) (hm : mL' ≤ 45)
    (run : ∀ (G : GG), Γ G → ∀ (x0 z : HP) (p : Program) (l : Launch) (e : Env) (R : Room) (s : State) (m : MethodId) (args : Array Value) (below : List Frame) (meth : Method) (c : Code), CX G dp cc own nL ret ini x0 z p l e R s m args below meth c →
      ∀ (x : HP) (v : Option Value) (y1 : HP), x0.1 ≤ x.1 → x.1 ≤ y1.1 → y1.1 ≤ z.1 → Met l y (.code y cc' mL' ret' :: TB) (rmK dp' x y1) (va_Pc (av.map (cV G)) (fun U => RP G x U.heap ∧ KX G U)) (QE G v y1) (y1.1 - x.1) (sz y1.1 - sz x.1) (AA G) →
      (rmK dp' x y1).frames + 1 ≤ R.frames ∧ 8 + (mL' + 11) + (rmK dp' x y1).locals ≤ R.locals → (x.1 - x0.1) + (y1.1 - x.1) ≤ R.cells ∧ (sz x.1 - sz x0.1) + (sz y1.1 - sz x.1) ≤ R.slots →
      ∀ (H : Heap) (locs : List Loc) (ls : Array Slot), LH G ls nL L → RP G x H → va_S (AA G) s.heap H locs →
      (∀ U : State, U.heap = H → s.WarmedH U.vm → va_Pc (av.map (cV G)) (fun U => RP G x U.heap ∧ KX G U) (av.map (cV G)).toArray U) →
      ∃ a9 : Array Value, va_Run p l e R s m args below meth c H locs (x.1 - x0.1) (sz x.1 - sz x0.1) (y1.1 - x.1) (sz y1.1 - sz x.1) (F0 m a ls (st0.map (cV G))) (st.map (cV G)) (QE G v y1 a9) (AA G))
    (K : KO Γ dp cc own nL ret ini (a + 3) L st F) : GT Γ dp cc own nL ret ini a L st0 (cG g F) := by
  refine ⟨fun x w z h => ?_, fun G hΓ x0 z w p l e R s m args below meth c C x hx h0 H locs ls hL hP hS => ?_⟩
  · obtain ⟨v, y, h1, h2⟩ := cG_of h
    exact Nat.le_trans (hCt.1 x v y h1) ((K v).1 y w z h2)
  · obtain ⟨v, y1, h1, h2⟩ := cG_of hx
    have m1 := hCt.1 x v y1 h1
    have m2 := (K v).1 y1 w z h2
    have z1 := sz_mono h0
    have z2 := sz_mono m1
    have z3 := sz_mono m2
    obtain ⟨q1, q2, q3, q4, q5, q6, q7, q8, q9, q10, q11⟩ := id C
    obtain ⟨a9, hr⟩ := run G hΓ x0 z p l e R s m args below meth c C x v y1 h0 m1 m2 (hCt.2 l G x v y1 h1) (by rw [q10]; exact ⟨hdp, (show 8 + (mL' + 11) + 64 * dp' ≤ 64 * dp by omega)⟩) (by rw [q10]; exact ⟨(show _ ≤ z.1 - x0.1 by omega), (show _ ≤ sz z.1 - sz x0.1 by omega)⟩) H locs ls hL hP hS (fun U hU hW => ⟨rfl, by rw [hU]; exact hP, q8.to hW hU hS⟩)
    refine w_after hr hS (fun H1 locs1 p1 p2 => ?_)
    have K2 := ((K v).2 ⟨y1, _, h2⟩).2 G hΓ x0 z w p l e R s m args below meth c C y1 h2 (Nat.le_trans h0 m1) H1 locs1 ls hL p1 p2
    have e1 : x.1 - x0.1 + (y1.1 - x.1) = y1.1 - x0.1 := by omega
    have e2 : sz x.1 - sz x0.1 + (sz y1.1 - sz x.1) = sz y1.1 - sz x0.1 := by omega
    rw [e1, e2]
    refine W.eq ?_ K2
    cases v <;> simp
/-- invokevirtual -/
theorem gt_callV {ci N c index dp' mL' : Nat} {T : u_T} {ty0 : Nat → FieldType} {y : MethodName} {cc' : ByteArray} {ret' : Option FieldType} {As : List Value} {g : HP → RS} {F : Option Value → HP → RS} (hc : CLS ci y.cls T N ty0) (hCt : Ct dp' y cc' mL' ret' (.ref c :: As) g) (hdp : dp' + 1 ≤ dp) (hm : mL' ≤ 45)
    (w1 : Cond.methodLink own index y ∈ TB) (w2 : Cond.instanceMethod y ∈ TB) (w3 : Cond.selects y.cls y y ∈ TB) (w4 : Cond.initialized y.cls ∈ TB) (w5 : Cond.code y cc' mL' ret' ∈ TB) (hy : y.cls ≠ "java/lang/invoke/MethodHandle" ∧ y.cls ≠ "java/lang/invoke/VarHandle" ∧ (parseMethodDescriptor y.desc).map (fun d => d.parameters.length) = some As.length)
    {st0 : List Value} (hst : st0 = As.reverse ++ .ref c :: st) (hcat : (st.map Value.category).sum ≤ 8) (hd : decode cc a = .ok (.invokevirtual index, 3)) (K : KO Γ dp cc own nL ret ini (a + 3) L st F) : GT Γ dp cc own nL ret ini a L st0 (obT c ci (cG g F)) := by
  subst hst
  have hG : GoodIn TB (wsV own index y.cls y (.code y cc' mL' ret' :: TB)) := by
    intro w hw
    unfold wsV at hw
    rcases List.mem_append.mp hw with hw | hw
    · simp only [List.mem_cons, List.not_mem_nil, or_false] at hw
      have hm : w ∈ TB := by rcases hw with rfl | rfl | rfl | rfl <;> assumption
      exact ⟨hm, good_of_word (List.mem_filter.mp hm).2⟩
    · exact tb_in w5 w hw
  refine ⟨fun x w z h => ?_, fun G hΓ x0 z w p l e R s m args below meth c2 C x hx h0 H locs ls hL hP hS => ?_⟩
  · obtain ⟨fs, -, h⟩ := obT_of h
    obtain ⟨v, y, h1, h2⟩ := cG_of h
    exact Nat.le_trans (hCt.1 x v y h1) ((K v).1 y w z h2)
  · obtain ⟨fs, h1, h2⟩ := obT_of hx
    obtain ⟨hlt, he⟩ := objF_of h1
    obtain ⟨v, y1, g1, g2⟩ := cG_of h2
    have m1 := hCt.1 x v y1 g1
    have m2 := (K v).1 y1 w z g2
    have z1 := sz_mono h0
    have z2 := sz_mono m1
    have z3 := sz_mono m2
    obtain ⟨q1, q2, q3, q4, q5, q6, q7, q8, q9, q10, q11⟩ := id C
    have hcA : cV G (.ref c) = .ref (G.1 + c) := by rw [cV, cA_lt hP hlt]
    have hR1 : (rmK dp' x y1).frames + 1 ≤ R.frames ∧ 8 + (mL' + 11) + (rmK dp' x y1).locals ≤ R.locals := by rw [q10]; exact ⟨hdp, (show 8 + (mL' + 11) + 64 * dp' ≤ 64 * dp by omega)⟩
    have hR2 : (x.1 - x0.1) + (y1.1 - x.1) ≤ R.cells ∧ (sz x.1 - sz x0.1) + (sz y1.1 - sz x.1) ≤ R.slots := by rw [q10]; exact ⟨(show _ ≤ z.1 - x0.1 by omega), (show _ ≤ sz z.1 - sz x0.1 by omega)⟩
    have hM := hCt.2 l G x v y1 g1
    rw [List.map_cons, hcA] at hM
    have hr := va_runV (e := e) (below := below) (meth := meth) (locs := locs) (H := H) (C := y.cls) (b := G.1 + c) (As := As.map (cV G)) (rest := st.map (cV G)) (g := F0 m a ls ((As.reverse ++ .ref c :: st).map (cV G))) ⟨q1, q2, q3, q4, q5⟩ hM (cwV As.length q5 hG rfl rfl rfl ⟨rfl, hy⟩ hR1) ⟨by rw [← hcA, ← List.map_cons]; exact pc_blind, va_recv q8.1 hP.2.2 hc.1 (by rw [wl_get hlt, he]; rfl), fun U hU hW => ⟨rfl, by rw [hU]; exact hP, q8.to hW hU hS⟩⟩ rfl (by simp) hL.1 (by rw [List.map_append, List.map_reverse, List.map_cons, hcA]) (lv_room (st_cat hcat)) hd hR2
    refine w_after hr hS (fun H1 locs1 p1 p2 => ?_)
    have K2 := ((K v).2 ⟨y1, _, g2⟩).2 G hΓ x0 z w p l e R s m args below meth c2 C y1 g2 (Nat.le_trans h0 m1) H1 locs1 ls hL p1 p2
    have e1 : x.1 - x0.1 + (y1.1 - x.1) = y1.1 - x0.1 := by omega
    have e2 : sz x.1 - sz x0.1 + (sz y1.1 - sz x.1) = sz y1.1 - sz x0.1 := by omega
    rw [e1, e2]
    refine W.eq ?_ K2
    cases v <;> simp
theorem tb_ws {ws : List Cond} (h : ∀ w ∈ ws, w ∈ TB) : GoodIn TB ws := fun w hw => ⟨h w hw, good_of_word (List.mem_filter.mp (h w hw)).2⟩
/-- invokestatic -/
theorem gt_callS {index dp' mL' : Nat} {y : MethodName} {cc' : ByteArray} {ret' : Option FieldType} {As : List Value} {g : HP → RS} {F : Option Value → HP → RS} (hCt : Ct dp' y cc' mL' ret' As g) (hdp : dp' + 1 ≤ dp) (hm : mL' ≤ 45)
    (w1 : Cond.methodLink own index y ∈ TB) (w2 : Cond.static y ∈ TB) (w4 : Cond.initialized y.cls ∈ TB) (w5 : Cond.code y cc' mL' ret' ∈ TB) (hy : y.cls ≠ "java/lang/invoke/MethodHandle" ∧ y.cls ≠ "java/lang/invoke/VarHandle" ∧ (parseMethodDescriptor y.desc).map (fun d => d.parameters.length) = some As.length)
    {st0 : List Value} (hst : st0 = As.reverse ++ st) (hcat : (st.map Value.category).sum ≤ 8) (hd : decode cc a = .ok (.invokestatic index, 3)) (K : KO Γ dp cc own nL ret ini (a + 3) L st F) : GT Γ dp cc own nL ret ini a L st0 (cG g F) := by
  subst hst
  refine gt_callG hCt hdp hm (fun G hΓ x0 z p l e R s m args below meth c C x v y1 h0 m1 m2 hM hR1 hR2 H locs ls hL hP hS hpc => ?_) K
  obtain ⟨q1, q2, q3, q4, q5, q6, q7, q8, q9, q10, q11⟩ := id C
  have hG : GoodIn TB (va_wsS own index y (.code y cc' mL' ret' :: TB)) := by
    intro w hw
    unfold va_wsS at hw
    rcases List.mem_append.mp hw with hw | hw
    · simp only [List.mem_cons, List.not_mem_nil, or_false] at hw
      have hm : w ∈ TB := by rcases hw with rfl | rfl | rfl <;> assumption
      exact ⟨hm, good_of_word (List.mem_filter.mp hm).2⟩
    · exact tb_in w5 w hw
  exact ⟨_, va_runS (e := e) (below := below) (meth := meth) (locs := locs) (H := H) (As := As.map (cV G)) (rest := st.map (cV G)) (g := F0 m a ls ((As.reverse ++ st).map (cV G))) ⟨q1, q2, q3, q4, q5⟩ hM (va_cwS As.length q5 hG rfl rfl rfl hy hR1) ⟨pc_blind, hpc⟩ rfl (by simp) hL.1 (by rw [List.map_append, List.map_reverse]) (lv_room (st_cat hcat)) hd hR2⟩
/-- invokespecial of a constructor -/
theorem gt_callI {index dp' mL' c : Nat} {y : MethodName} {cc' : ByteArray} {As : List Value} {g : HP → RS} {F : Option Value → HP → RS} (hCt : Ct dp' y cc' mL' none (.ref c :: As) g) (hdp : dp' + 1 ≤ dp) (hm : mL' ≤ 45) (hi : y.name = "<init>")
    (w1 : Cond.methodLink own index y ∈ TB ∨ (own, index, y) ∈ nestW) (w2 : Cond.instanceMethod y ∈ TB) (w4 : Cond.initialized y.cls ∈ TB) (w5 : Cond.code y cc' mL' none ∈ TB) (hy : y.cls ≠ "java/lang/invoke/MethodHandle" ∧ y.cls ≠ "java/lang/invoke/VarHandle" ∧ (parseMethodDescriptor y.desc).map (fun d => d.parameters.length) = some As.length)
    {st0 : List Value} (hst : st0 = As.reverse ++ .ref c :: st) (hcat : (st.map Value.category).sum ≤ 8) (hd : decode cc a = .ok (.invokespecial index, 3)) (K : KO Γ dp cc own nL ret ini (a + 3) L st F) : GT Γ dp cc own nL ret ini a L st0 (cG g F) := by
  subst hst
  refine gt_callG hCt hdp hm (fun G hΓ x0 z p l e R s m args below meth c2 C x v y1 h0 m1 m2 hM hR1 hR2 H locs ls hL hP hS hpc => ?_) K
  obtain ⟨q1, q2, q3, q4, q5, q6, q7, q8, q9, q10, q11⟩ := id C
  rw [List.map_cons] at hM hpc
  rcases w1 with w1 | w1
  · exact ⟨_, va_runI (e := e) (below := below) (meth := meth) (locs := locs) (H := H) (b := cA G c) (As := As.map (cV G)) (rest := st.map (cV G)) (g := F0 m a ls ((As.reverse ++ .ref c :: st).map (cV G))) ⟨q1, q2, q3, q4, q5⟩ hM (cwI As.length q5 (tb_in w5) rfl rfl rfl (q5 _ w4) (q5 _ w1) (q5 _ w2) hi hy hR1) ⟨by have h := pc_blind (G := G) (x := x) (av := .ref c :: As); rw [List.map_cons] at h; exact h, hpc⟩ rfl (by simp) hL.1 (by rw [List.map_append, List.map_reverse]; rfl) (lv_room (st_cat hcat)) hd hR2⟩
  · exact ⟨_, va_runIN (e := e) (below := below) (meth := meth) (locs := locs) (H := H) (host := "LastInBox") (b := cA G c) (As := As.map (cV G)) (rest := st.map (cV G)) (g := F0 m a ls ((As.reverse ++ .ref c :: st).map (cV G))) ⟨q1, q2, q3, q4, q5⟩ hM ⟨va_cnB As.length q5 (tb_in w5) rfl rfl rfl (q8.2.2.2.2.2.1 _ w1) (q5 _ w4) hy hR1, hi, q5 _ w2⟩ ⟨by have h := pc_blind (G := G) (x := x) (av := .ref c :: As); rw [List.map_cons] at h; exact h, hpc⟩ rfl (by simp) hL.1 (by rw [List.map_append, List.map_reverse]; rfl) (lv_room (st_cat hcat)) hd hR2⟩
/-- Object.<init> -/
theorem gt_objInit {index c : Nat} (hdp : 1 ≤ dp) (w1 : Cond.methodLink own index objectInit ∈ TB) (w2 : Cond.instanceMethod objectInit ∈ TB) (w3 : Cond.code objectInit ⟨#[0xb1]⟩ 1 none ∈ TB) (hcat : (st.map Value.category).sum ≤ 8) (hd : decode cc a = .ok (.invokespecial index, 3)) (K : GT Γ dp cc own nL ret ini (a + 3) L st F) : GT Γ dp cc own nL ret ini a L (.ref c :: st) F :=
  ⟨K.1, fun G hΓ x0 z v p l e R s m args below meth c2 C x hx h0 H locs ls hL hP hS => by
    obtain ⟨q1, q2, q3, q4, q5, q6, q7, q8, q9, q10, q11⟩ := id C
    refine W.objInit (a := cA G c) (rest := st.map (cV G)) q1 q2 q4 (q5 _ w1) (q5 _ w2) (q5 _ w3) rfl (by rw [q3]; exact hL.1) rfl hd (by rw [q10]; exact hdp) ?_ ?_
    · have h1 := st_cat (G := G) hcat
      have h2 : R.locals = 64 * dp := by rw [q10]; rfl
      show 2 * 0 + _ + 12 ≤ _
      omega
    · exact K.2 G hΓ x0 z v p l e R s m args below meth c2 C x hx h0 H locs ls hL hP hS⟩
/-! returns -/
theorem gt_retI {v : Int32} (hr : ret = some .int) (hd : decode cc a = .ok (.ireturn, 1)) : GT Γ dp cc own nL ret ini a L [.int v] (rt (some (.int v))) :=
  ⟨fun x w z h => by cases h; exact Nat.le_refl _, fun G hΓ x0 z w p l e R s m args below meth c2 C x hx h0 H locs ls hL hP hS => by
    cases hx
    exact W.iret C.1 C.2.1 (C.2.2.2.2.2.1.trans hr) (fun t ht hW => ⟨rfl, by rw [ht]; exact hP, hS.F ht⟩) hS.2.2 hd C.2.2.2.2.2.2.1⟩
theorem gt_retT {v : Int32} {ty : FieldType} (hr : ret = some ty) (hn : narrow ty (.int v) = .int v) (hd : decode cc a = .ok (.ireturn, 1)) : GT Γ dp cc own nL ret ini a L [.int v] (rt (some (.int v))) :=
  ⟨fun x w z h => by cases h; exact Nat.le_refl _, fun G hΓ x0 z w p l e R s m args below meth c2 C x hx h0 H locs ls hL hP hS => by
    cases hx
    exact W.zret C.1 C.2.1 (C.2.2.2.2.2.1.trans hr) hn (fun t ht hW => ⟨rfl, by rw [ht]; exact hP, hS.F ht⟩) hS.2.2 hd C.2.2.2.2.2.2.1⟩
theorem gt_retZ {v : Int32} (hr : ret = some .boolean) (hd : decode cc a = .ok (.ireturn, 1)) : GT Γ dp cc own nL ret ini a L [.int v] (bitT v (rt (some (.int v)))) :=
  gt_bit fun h => gt_retT hr (bit_nar h).1 hd
theorem gt_retJ {v : Int64} (hr : ret = some .long) (hd : decode cc a = .ok (.lreturn, 1)) : GT Γ dp cc own nL ret ini a L [.long v] (rt (some (.long v))) :=
  ⟨fun x w z h => by cases h; exact Nat.le_refl _, fun G hΓ x0 z w p l e R s m args below meth c2 C x hx h0 H locs ls hL hP hS => by
    cases hx
    exact W.lret C.1 C.2.1 (C.2.2.2.2.2.1.trans hr) (fun t ht hW => ⟨rfl, by rw [ht]; exact hP, hS.F ht⟩) hS.2.2 hd C.2.2.2.2.2.2.1⟩
theorem gt_retV (hr : ret = none) (hd : decode cc a = .ok (.return_, 1)) : GT Γ dp cc own nL ret ini a L [] (rt none) :=
  ⟨fun x w z h => by cases h; exact Nat.le_refl _, fun G hΓ x0 z w p l e R s m args below meth c2 C x hx h0 H locs ls hL hP hS => by
    cases hx
    exact W.vret C.1 C.2.1 (C.2.2.2.2.2.1.trans hr) (fun t ht hW => ⟨rfl, by rw [ht]; exact hP, hS.F ht⟩) hS.2.2 hd C.2.2.2.2.2.2.1⟩
theorem gt_retR {v : Value} {ty : FieldType} (hr : ret = some ty) (hty : (∃ n, ty = .object n) ∨ ∃ t, ty = .array t) (hv : v = .null ∨ ∃ c, v = .ref c) (hd : decode cc a = .ok (.areturn, 1)) : GT Γ dp cc own nL ret ini a L [v] (rt (some v)) :=
  ⟨fun x w z h => by cases h; exact Nat.le_refl _, fun G hΓ x0 z w p l e R s m args below meth c2 C x hx h0 H locs ls hL hP hS => by
    cases hx
    exact W.aret C.1 C.2.1 (C.2.2.2.2.2.1.trans hr) hty (by rcases hv with rfl | ⟨c, rfl⟩; exact Or.inl rfl; exact Or.inr ⟨_, rfl⟩) (fun t ht hW => ⟨rfl, by rw [ht]; exact hP, hS.F ht⟩) hS.2.2 hd C.2.2.2.2.2.2.1⟩
/-! constants out of the pool -/
theorem gt_ldc {index : Nat} {v : Int32} (w1 : Cond.constant own index v ∈ TB) (hd : decode cc a = .ok (.ldc index, 2)) (K : GT Γ dp cc own nL ret ini (a + 2) L (.int v :: st) F) : GT Γ dp cc own nL ret ini a L st F :=
  ⟨K.1, fun G hΓ x0 z w p l e R s m args below meth c2 C x hx h0 H locs ls hL hP hS => lv_ldc C.1 C.2.1 C.2.2.2.1 (C.2.2.2.2.1 _ w1) hd (K.2 G hΓ x0 z w p l e R s m args below meth c2 C x hx h0 H locs ls hL hP hS)⟩
theorem gt_ldcw {index : Nat} {v : Int32} (w1 : Cond.constant own index v ∈ TB) (hd : decode cc a = .ok (.ldc_w index, 3)) (K : GT Γ dp cc own nL ret ini (a + 3) L (.int v :: st) F) : GT Γ dp cc own nL ret ini a L st F :=
  ⟨K.1, fun G hΓ x0 z w p l e R s m args below meth c2 C x hx h0 H locs ls hL hP hS => lv_ldcw C.1 C.2.1 C.2.2.2.1 (C.2.2.2.2.1 _ w1) hd (K.2 G hΓ x0 z w p l e R s m args below meth c2 C x hx h0 H locs ls hL hP hS)⟩
theorem gt_ldc2 {index : Nat} {v : Int64} (w1 : Cond.constantLong own index v ∈ TB) (hd : decode cc a = .ok (.ldc2_w index, 3)) (K : GT Γ dp cc own nL ret ini (a + 3) L (.long v :: st) F) : GT Γ dp cc own nL ret ini a L st F :=
  ⟨K.1, fun G hΓ x0 z w p l e R s m args below meth c2 C x hx h0 H locs ls hL hP hS => lv_ldc2 C.1 C.2.1 C.2.2.2.1 (C.2.2.2.2.1 _ w1) hd (K.2 G hΓ x0 z w p l e R s m args below meth c2 C x hx h0 H locs ls hL hP hS)⟩
/-! Math.min, Math.max -/
def mnI (x y : Int32) : Int32 := if y < x then y else x
def mxI (x y : Int32) : Int32 := if x < y then y else x
theorem gt_min {index : Nat} {x y : Int32} (hdp : 1 ≤ dp) (w1 : Cond.methodLink own index Lib.Math.min.name ∈ TB) (w2 : Cond.static Lib.Math.min.name ∈ TB) (w3 : Cond.initialized "java/lang/Math" ∈ TB) (w4 : Cond.code Lib.Math.min.name Lib.Math.min.code 2 (some .int) ∈ TB) (hcat : (st.map Value.category).sum ≤ 8) (hd : decode cc a = .ok (.invokestatic index, 3))
    (K : GT Γ dp cc own nL ret ini (a + 3) L (.int (mnI x y) :: st) F) : GT Γ dp cc own nL ret ini a L (.int y :: .int x :: st) F :=
  ⟨K.1, fun G hΓ x0 z w p l e R s m args below meth c2 C x9 hx h0 H locs ls hL hP hS => by
    obtain ⟨q1, q2, q3, q4, q5, q6, q7, q8, q9, q10, q11⟩ := id C
    have m1 := K.1 x9 w z hx
    have z1 := sz_mono m1
    have h1 := st_cat (G := G) hcat
    have h2 : R.locals = 64 * dp := by rw [q10]; rfl
    exact va_mmin (rest := st.map (cV G)) q1 q2 (q3.trans hL.1.symm) q4 (q5 _ w1) (q5 _ w2) (q5 _ w3) (q5 _ w4) (by rw [q10]; exact hdp) (by omega) (by rw [q10]; exact (show _ ≤ z.1 - x0.1 by omega)) (by rw [q10]; exact (show _ ≤ sz z.1 - sz x0.1 by omega)) hd (K.2 G hΓ x0 z w p l e R s m args below meth c2 C x9 hx h0 H locs ls hL hP hS)⟩
theorem gt_max {index : Nat} {x y : Int32} (hdp : 1 ≤ dp) (w1 : Cond.methodLink own index Lib.Math.max.name ∈ TB) (w2 : Cond.static Lib.Math.max.name ∈ TB) (w3 : Cond.initialized "java/lang/Math" ∈ TB) (w4 : Cond.code Lib.Math.max.name Lib.Math.max.code 2 (some .int) ∈ TB) (hcat : (st.map Value.category).sum ≤ 8) (hd : decode cc a = .ok (.invokestatic index, 3))
    (K : GT Γ dp cc own nL ret ini (a + 3) L (.int (mxI x y) :: st) F) : GT Γ dp cc own nL ret ini a L (.int y :: .int x :: st) F :=
  ⟨K.1, fun G hΓ x0 z w p l e R s m args below meth c2 C x9 hx h0 H locs ls hL hP hS => by
    obtain ⟨q1, q2, q3, q4, q5, q6, q7, q8, q9, q10, q11⟩ := id C
    have m1 := K.1 x9 w z hx
    have z1 := sz_mono m1
    have h1 := st_cat (G := G) hcat
    have h2 : R.locals = 64 * dp := by rw [q10]; rfl
    exact va_mmax (rest := st.map (cV G)) q1 q2 (q3.trans hL.1.symm) q4 (q5 _ w1) (q5 _ w2) (q5 _ w3) (q5 _ w4) (by rw [q10]; exact hdp) (by omega) (by rw [q10]; exact (show _ ≤ z.1 - x0.1 by omega)) (by rw [q10]; exact (show _ ≤ sz z.1 - sz x0.1 by omega)) hd (K.2 G hΓ x0 z w p l e R s m args below meth c2 C x9 hx h0 H locs ls hL hP hS)⟩
/-! the tables of Kinds -/
theorem gt_getsA {index : Nat} (w1 : Cond.fieldLink own index "LastInBox$Kinds" "ABOVE" "[I" ∈ TB) (hd : decode cc a = .ok (.getstatic index, 3)) (K : GT Γ dp cc own nL ret ini (a + 3) L (.ref 1000 :: st) F) : GT Γ dp cc own nL ret ini a L st F :=
  ⟨K.1, fun G hΓ x0 z w p l e R s m args below meth c2 C x hx h0 H locs ls hL hP hS => va_gets C.1 C.2.1 C.2.2.2.2.2.2.2.1.2.1.1 hS C.2.2.2.1 (C.2.2.2.2.1 _ w1) (fun _ h => h) hd (K.2 G hΓ x0 z w p l e R s m args below meth c2 C x hx h0 H locs ls hL hP hS)⟩
theorem gt_getsB {index : Nat} (w1 : Cond.fieldLink own index "LastInBox$Kinds" "BODIES" "[I" ∈ TB) (hd : decode cc a = .ok (.getstatic index, 3)) (K : GT Γ dp cc own nL ret ini (a + 3) L (.ref 1001 :: st) F) : GT Γ dp cc own nL ret ini a L st F :=
  ⟨K.1, fun G hΓ x0 z w p l e R s m args below meth c2 C x hx h0 H locs ls hL hP hS => va_gets C.1 C.2.1 C.2.2.2.2.2.2.2.1.2.1.2.2.1 hS C.2.2.2.1 (C.2.2.2.2.1 _ w1) (fun _ h => h) hd (K.2 G hΓ x0 z w p l e R s m args below meth c2 C x hx h0 H locs ls hL hP hS)⟩
def tbT (n : Nat) (f : Nat → Int32) (i : Int32) (F : Int32 → HP → RS) : HP → RS := fun x => if i < 0 ∨ n ≤ i.toNatClampNeg then none else F (f i.toNatClampNeg) x
theorem gt_tbT {n t : Nat} {f : Nat → Int32} {i : Int32} {F : Int32 → HP → RS} (hT : ∀ (G : GG) (s : State) (H : Heap) (locs : List Loc), KX G s → va_S (AA G) s.heap H locs → va_T .int (cA G t) n (fun j => .int (f j)) (AA G) s H) (hd : decode cc a = .ok (.iaload, 1)) (K : ∀ v, GT Γ dp cc own nL ret ini (a + 1) L (.int v :: st) (F v)) : GT Γ dp cc own nL ret ini a L (.int i :: .ref t :: st) (tbT n f i F) := by
  refine ⟨fun x w z h => ?_, fun G hΓ x0 z w p l e R s m args below meth c2 C x hx h0 H locs ls hL hP hS => ?_⟩
  · unfold tbT at h
    split at h
    · cases h
    · exact (K _).1 x w z h
  · unfold tbT at hx
    split at hx
    · cases hx
    · rename_i hi
      have hlt : i.toNatClampNeg < n := Nat.not_le.mp fun q => hi (Or.inr q)
      obtain ⟨cell, h1, h2, h3, h4, h5, h6, h7⟩ := hT G s H locs C.2.2.2.2.2.2.2.1 hS
      exact W.iald (v := .int (f i.toNatClampNeg)) C.1 C.2.1 h1 h2 h3 (fun q => q.elim (fun q => hi (Or.inl q)) (fun q => absurd (Nat.lt_of_lt_of_le hlt h4) (Nat.not_lt.mpr q))) (h6 _ hlt) rfl rfl hd ((K _).2 G hΓ x0 z w p l e R s m args below meth c2 C x hx h0 H locs ls hL hP hS)
theorem tT_A (G : GG) (s : State) (H : Heap) (locs : List Loc) (hK : KX G s) (hS : va_S (AA G) s.heap H locs) : va_T .int (cA G 1000) 7 (fun j => .int (kAb j)) (AA G) s H := va_T.kept hK.2.1.2.1 hS.2.1
theorem tT_B (G : GG) (s : State) (H : Heap) (locs : List Loc) (hK : KX G s) (hS : va_S (AA G) s.heap H locs) : va_T .int (cA G 1001) 28 (fun j => .int (kBo j)) (AA G) s H := va_T.kept hK.2.1.2.2.2.1 hS.2.1
end CALLS
