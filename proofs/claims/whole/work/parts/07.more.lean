/-! ===== switches, loops, the whole method, texts ===== -/
def swT (x : Int32) : List (Int32 × (HP → RS)) → (HP → RS) → HP → RS
  | [], d => d
  | (k, A) :: l, d => iteT (x = k) A (swT x l d)
section SWITCH
variable {Γ : GG → Prop} {dp : Nat} {cc : ByteArray} {own : String} {nL : Nat} {ret : Option FieldType} {ini : Bool} {a b : Nat} {L : List (Option Value)} {st : List Value} {F F1 F2 : HP → RS}
theorem swT_mono {x : Int32} {Fd : HP → RS} (hd : ∀ y v z, Fd y = some (v, z) → y.1 ≤ z.1) : ∀ cs : List (Int32 × (HP → RS)), (∀ q ∈ cs, ∀ y v z, q.2 y = some (v, z) → y.1 ≤ z.1) → ∀ y v z, swT x cs Fd y = some (v, z) → y.1 ≤ z.1
  | [], _, y, v, z, h => hd y v z h
  | (k, A) :: l, hc, y, v, z, h => by
    unfold swT iteT at h
    split at h
    · exact hc (k, A) List.mem_cons_self y v z h
    · exact swT_mono hd l (fun q hq => hc q (List.mem_cons_of_mem _ hq)) y v z h
/-- which way a switch goes, out of its list -/
def swG (x : Int32) (td : Nat) : List (Int32 × Nat) → Nat
  | [] => td
  | (k, t) :: l => if x = k then t else swG x td l
theorem swT_at {x : Int32} {Fd : HP → RS} {td : Nat} {y : HP} : ∀ cs : List (Int32 × Nat × (HP → RS)), (∃ A, (swT x (cs.map (fun q => (q.1, q.2.2))) Fd y = A y) ∧ ((A = Fd ∧ swG x td (cs.map (fun q => (q.1, q.2.1))) = td) ∨ ∃ q ∈ cs, q.2.2 = A ∧ swG x td (cs.map (fun q => (q.1, q.2.1))) = q.2.1))
  | [] => ⟨Fd, rfl, Or.inl ⟨rfl, rfl⟩⟩
  | (k, t, A) :: l => by
    by_cases h : x = k
    · refine ⟨A, ?_, Or.inr ⟨(k, t, A), List.mem_cons_self, rfl, ?_⟩⟩
      · show (if x = k then A y else _) = A y
        rw [if_pos h]
      · show (if x = k then t else _) = t
        rw [if_pos h]
    · obtain ⟨B, h1, h2⟩ := swT_at (x := x) (Fd := Fd) (td := td) (y := y) l
      refine ⟨B, ?_, ?_⟩
      · show (if x = k then A y else _) = B y
        rw [if_neg h]
        exact h1
      · have e : swG x td (((k, t, A) :: l).map (fun q => (q.1, q.2.1))) = swG x td (l.map (fun q => (q.1, q.2.1))) := by
          show (if x = k then t else _) = _
          rw [if_neg h]
        rw [e]
        rcases h2 with h2 | ⟨q, hq, h2⟩
        · exact Or.inl h2
        · exact Or.inr ⟨q, List.mem_cons_of_mem _ hq, h2⟩
theorem gt_sw {x : Int32} {cs : List (Int32 × Nat × (HP → RS))} {td : Nat} {Fd : HP → RS}
    (step : ∀ (G : GG) (p : Program) (l : Launch) (e : Env) (R : Room) (s : State) (m : MethodId) (args : Array Value) (below : List Frame) (meth : Method) (c : Code) (H : Heap) (locs : List Loc) (k n : Nat) (Q : State → Prop) (ls : Array Slot), p.tables.exec = Jvm.exec → c.code = cc →
      W p l e R s m args below meth c H locs k n Q (F0 m (swG x td (cs.map (fun q => (q.1, q.2.1)))) ls (st.map (cV G))) → W p l e R s m args below meth c H locs k n Q (F0 m a ls ((.int x :: st).map (cV G))))
    (K : ∀ q ∈ cs, GT Γ dp cc own nL ret ini q.2.1 L st q.2.2) (Kd : GT Γ dp cc own nL ret ini td L st Fd) : GT Γ dp cc own nL ret ini a L (.int x :: st) (swT x (cs.map (fun q => (q.1, q.2.2))) Fd) := by
  refine ⟨swT_mono Kd.1 _ (fun q hq => ?_), fun G hΓ x0 z v p l e R s m args below meth c C y hx h0 H locs ls hL hP hS => step G p l e R s m args below meth c H locs _ _ _ ls C.1 C.2.1 ?_⟩
  · obtain ⟨q', hq', e⟩ := List.mem_map.mp hq
    subst e
    exact (K q' hq').1
  · obtain ⟨A, h1, h2⟩ := swT_at (x := x) (Fd := Fd) (td := td) (y := y) cs
    rw [h1] at hx
    rcases h2 with ⟨e1, e2⟩ | ⟨q, hq, e1, e2⟩
    · subst e1
      rw [e2]
      exact Kd.2 G hΓ x0 z v p l e R s m args below meth c C y hx h0 H locs ls hL hP hS
    · subst e1
      rw [e2]
      exact (K q hq).2 G hΓ x0 z v p l e R s m args below meth c C y hx h0 H locs ls hL hP hS
theorem swG_out {x : Int32} {td : Nat} : ∀ ks : List (Int32 × Nat), (∀ q ∈ ks, x ≠ q.1) → swG x td ks = td
  | [], _ => rfl
  | (k, t) :: l, h => by
    show (if x = k then t else _) = td
    rw [if_neg (h (k, t) List.mem_cons_self)]
    exact swG_out l (fun q hq => h q (List.mem_cons_of_mem _ hq))
/-- the keys of a tableswitch: all of them, in order, with their ways -/
def tkB (a : Nat) (lo : Int) (ks : List (Int32 × Nat)) (offs : Array Int) : Bool :=
  decide (ks.length = offs.size) && (List.range ks.length).all (fun j => match ks[j]?, offs[j]? with
    | some (k, t), some o => decide (k.toInt = lo + (j : Int)) && decide ((a : Int) + o = (t : Int))
    | _, _ => false)
theorem swG_in {x : Int32} {td : Nat} : ∀ (ks : List (Int32 × Nat)) (j : Nat) (lo : Int) (t : Nat), (∀ (i : Nat) (q : Int32 × Nat), ks[i]? = some q → q.1.toInt = lo + (i : Int)) → ks[j]? = some (x, t) → swG x td ks = t
  | [], j, lo, t, _, h => by simp at h
  | (k, t') :: l, 0, lo, t, _, h => by
    rw [List.getElem?_cons_zero] at h
    have h2 := Option.some.inj h
    have e1 : k = x := congrArg Prod.fst h2
    have e2 : t' = t := congrArg Prod.snd h2
    subst e1
    show (if k = k then t' else _) = t
    rw [if_pos rfl]
    exact e2
  | (k, t') :: l, j + 1, lo, t, hk, h => by
    have h0 := hk 0 (k, t') rfl
    have h1 := hk (j + 1) (x, t) h
    have hne : ¬ x = k := by
      intro e
      subst e
      simp only at h0 h1
      omega
    show (if x = k then t' else swG x td l) = t
    rw [if_neg hne]
    exact swG_in l j (lo + 1) t (fun i q hq => by have := hk (i + 1) q hq; omega) h
theorem gt_tsw {x : Int32} {cs : List (Int32 × Nat × (HP → RS))} {td len : Nat} {Fd : HP → RS} {dflt lo hi : Int} {offs : Array Int} {ks : List (Int32 × Nat)} (hd : decode cc a = .ok (.tableswitch dflt lo hi offs, len)) (hks : cs.map (fun q => (q.1, q.2.1)) = ks) (hk : tkB a lo ks offs = true) (hhi : hi = lo + (offs.size : Int) - 1) (htd : (a : Int) + dflt = (td : Int))
    (K : ∀ q ∈ cs, GT Γ dp cc own nL ret ini q.2.1 L st q.2.2) (Kd : GT Γ dp cc own nL ret ini td L st Fd) : GT Γ dp cc own nL ret ini a L (.int x :: st) (swT x (cs.map (fun q => (q.1, q.2.2))) Fd) := by
  refine gt_sw (fun G p l e R s m args below meth c H locs k n Q ls hx hb kk => ?_) K Kd
  rw [hks] at kk
  unfold tkB at hk
  rw [Bool.and_eq_true] at hk
  have hlen : ks.length = offs.size := of_decide_eq_true hk.1
  have hall : ∀ j, j < ks.length → ∃ q o, ks[j]? = some q ∧ offs[j]? = some o ∧ q.1.toInt = lo + (j : Int) ∧ (a : Int) + o = (q.2 : Int) := by
    intro j hj
    have h := List.all_eq_true.mp hk.2 j (List.mem_range.mpr hj)
    have hj2 : j < offs.size := by omega
    rw [List.getElem?_eq_getElem hj, Array.getElem?_eq_getElem hj2] at h
    simp only [Bool.and_eq_true, decide_eq_true_eq] at h
    exact ⟨_, _, List.getElem?_eq_getElem hj, Array.getElem?_eq_getElem hj2, h.1, h.2⟩
  have hkeys : ∀ (i : Nat) (q : Int32 × Nat), ks[i]? = some q → q.1.toInt = lo + (i : Int) := by
    intro i q hq
    obtain ⟨q', o, h1, -, h3, -⟩ := hall i (List.getElem?_eq_some_iff.mp hq).1
    cases hq.symm.trans h1
    exact h3
  by_cases hin : x.toInt < lo ∨ hi < x.toInt
  · refine lv_tableOut hx hb hd hin htd ?_
    rw [swG_out ks (fun q hq => ?_)] at kk
    · exact kk
    · intro e
      obtain ⟨i, hi⟩ := List.getElem?_of_mem hq
      have h1 := hkeys i q hi
      have h2 := (List.getElem?_eq_some_iff.mp hi).1
      rw [e] at hin
      omega
  · have h1 : ¬ x.toInt < lo := fun h => hin (Or.inl h)
    have h2 : ¬ hi < x.toInt := fun h => hin (Or.inr h)
    have hj : (x.toInt - lo).toNat < ks.length := by omega
    obtain ⟨q, o, g1, g2, g3, g4⟩ := hall _ hj
    have hq : q.1 = x := by
      apply Int32.toInt_inj.mp
      omega
    refine lv_tableIn hx hb hd h1 h2 g2 g4 ?_
    rw [swG_in ks _ lo q.2 hkeys (by rw [g1, ← hq])] at kk
    exact kk
def lkB (a : Nat) (ks : List (Int32 × Nat)) (ps : List (Int × Int)) : Bool := decide (ks.map (fun q => (q.1.toInt, (q.2 : Int))) = ps.map (fun q => (q.1, (a : Int) + q.2)))
theorem lk_go {a td : Nat} {x : Int32} {dflt : Int} (htd : (a : Int) + dflt = (td : Int)) : ∀ (ks : List (Int32 × Nat)) (ps : List (Int × Int)), ks.map (fun q => (q.1.toInt, (q.2 : Int))) = ps.map (fun q => (q.1, (a : Int) + q.2)) → (a : Int) + Op.lookupswitch.offset ps dflt x.toInt = ((swG x td ks : Nat) : Int)
  | [], [], _ => by rw [Op.lookupswitch.offset_nil]; exact htd
  | [], _ :: _, h => by simp at h
  | _ :: _, [], h => by simp at h
  | (k, t) :: ks, (p, o) :: ps, h => by
    rw [List.map_cons, List.map_cons] at h
    obtain ⟨h1, h2⟩ := List.cons.inj h
    have e1 : k.toInt = p := congrArg Prod.fst h1
    have e2 : (t : Int) = (a : Int) + o := congrArg Prod.snd h1
    rw [Op.lookupswitch.offset_cons]
    show _ = ((if x = k then t else swG x td ks : Nat) : Int)
    by_cases hx : x = k
    · rw [if_pos (by rw [hx]; exact e1.symm), if_pos hx]
      exact e2.symm
    · rw [if_neg (fun e => hx (Int32.toInt_inj.mp (by rw [e1]; exact e.symm))), if_neg hx]
      exact lk_go htd ks ps h2
theorem gt_lsw {x : Int32} {cs : List (Int32 × Nat × (HP → RS))} {td len : Nat} {Fd : HP → RS} {dflt : Int} {ps : Array (Int × Int)} {ks : List (Int32 × Nat)} (hd : decode cc a = .ok (.lookupswitch dflt ps, len)) (hks : cs.map (fun q => (q.1, q.2.1)) = ks) (hso : (ps.toList.zip (ps.toList.drop 1)).all (fun (a, next) => a.1 < next.1) = true) (hk : lkB a ks ps.toList = true) (htd : (a : Int) + dflt = (td : Int))
    (K : ∀ q ∈ cs, GT Γ dp cc own nL ret ini q.2.1 L st q.2.2) (Kd : GT Γ dp cc own nL ret ini td L st Fd) : GT Γ dp cc own nL ret ini a L (.int x :: st) (swT x (cs.map (fun q => (q.1, q.2.2))) Fd) := by
  refine gt_sw (fun G p l e R s m args below meth c H locs k n Q ls hx hb kk => ?_) K Kd
  rw [hks] at kk
  exact lv_lookup hx hb hd hso rfl (lk_go htd _ _ (of_decide_eq_true hk)) kk
/-! loops: as many rounds as FU at most -/
def FU : Nat := 4096
def loopN {P : Type} (b : (P → HP → RS) → P → HP → RS) : Nat → P → HP → RS
  | 0 => fun _ _ => none
  | n + 1 => b (loopN b n)
def loopT {P : Type} (b : (P → HP → RS) → P → HP → RS) : P → HP → RS := loopN b FU
theorem gt_loop {P : Type} {b : (P → HP → RS) → P → HP → RS} (Lq : P → List (Option Value)) (h : ∀ K, (∀ q, GT Γ dp cc own nL ret ini a (Lq q) [] (K q)) → ∀ q, GT Γ dp cc own nL ret ini a (Lq q) [] (b K q)) (q : P) : GT Γ dp cc own nL ret ini a (Lq q) [] (loopT b q) := by
  have key : ∀ n q, GT Γ dp cc own nL ret ini a (Lq q) [] (loopN b n q) := by
    intro n
    induction n with
    | zero => intro q; exact gt_none
    | succ n ih => intro q; exact h _ ih q
  exact key FU q
end SWITCH
/-! a method, from its rows -/
def argL : List Value → List (Option Value)
  | [] => []
  | v :: vs => if v.category = 2 then some v :: none :: argL vs else some v :: argL vs
theorem argL_get {G : GG} : ∀ (av : List Value) (k i : Nat) (v : Value), (argL av)[i]? = some (some v) → (k + i, cV G v) ∈ lv_args k (av.map (cV G))
  | [], k, i, v, h => by simp [argL] at h
  | w :: vs, k, i, v, h => by
    rw [argL] at h
    have hw : (cV G w).category = w.category := cV_cat w
    rw [List.map_cons, lv_args]
    split at h
    · rename_i hc
      match i, h with
      | 0, h =>
        rw [List.getElem?_cons_zero] at h
        cases h
        exact List.mem_cons_self
      | 1, h => simp at h
      | i + 2, h =>
        rw [List.getElem?_cons_succ, List.getElem?_cons_succ] at h
        have := argL_get (G := G) vs (k + 2) i v h
        rw [hw, hc]
        refine List.mem_cons_of_mem _ ?_
        rw [show k + (i + 2) = k + 2 + i by omega]
        exact this
    · rename_i hc
      have hc1 : w.category = 1 := (lv_cat w).resolve_right hc
      match i, h with
      | 0, h =>
        rw [List.getElem?_cons_zero] at h
        cases h
        exact List.mem_cons_self
      | i + 1, h =>
        rw [List.getElem?_cons_succ] at h
        have := argL_get (G := G) vs (k + 1) i v h
        rw [hw, hc1]
        refine List.mem_cons_of_mem _ ?_
        rw [show k + (i + 1) = k + 1 + i by omega]
        exact this
theorem lg_len {G : GG} (av : List Value) : (lg_sl (av.map (cV G))).length = (lg_sl av).length := by
  induction av with
  | nil => rfl
  | cons v vs ih => cases v <;> simp_all [lg_sl, cV, Value.category]
theorem ct_of {dp nL : Nat} {y : MethodName} {cc : ByteArray} {ret : Option FieldType} {ini : Bool} {av : List Value} {F : HP → RS} (hy : plainName y.cls = true) (hin : ini = true → y.name = "<init>") (hn : (lg_sl av).length ≤ nL) (K : GT (fun _ => True) dp cc y.cls nL ret ini 0 (argL av) [] F) : Ct dp y cc nL ret av F := by
  refine ⟨K.1, fun l G x v z hx => Met.ofW (cc := cc) (maxL := nL) (ret := ret) hy rfl ?_⟩
  intro p e s m args below meth c s₁ B hml hv
  obtain ⟨rfl, hP, hK⟩ := hv
  have hts := atoms_spec (ws := Cond.code y cc nL ret :: TB) B.pre
  have hl := lv_entry (av.map (cV G)) (n := nL) (by rw [lg_len]; exact hn)
  rw [lg_entry_eq]
  generalize (lg_sl (av.map (cV G)) ++ List.replicate (nL - (lg_sl (av.map (cV G))).length) Slot.unset).toArray = ls at hl ⊢
  have hL : LH G ls nL (argL av) := ⟨hl.1, hl.2.1, fun i w hw => by
    have h := hl.2.2 _ (argL_get (G := G) av 0 i w hw)
    rw [Nat.zero_add] at h
    exact h⟩
  have h0 : x.1 - x.1 = 0 := Nat.sub_self _
  have h1 : sz x.1 - sz x.1 = 0 := Nat.sub_self _
  have KK := K.2 G trivial x z v p l e _ s m _ below meth c ⟨B.exec, B.bytes, hml, findClass_of_methodNamed B.named, fun w hw => hts w (List.mem_cons_of_mem _ hw), B.returns, B.notSynchronized, hK, hP, rfl, fun h => ((name_of_methodNamed B.named B.method).1).trans (hin h)⟩ x hx (Nat.le_refl _) s.heap [] ls hL hP va_S.rf
  rw [h0, h1] at KK
  exact KK
