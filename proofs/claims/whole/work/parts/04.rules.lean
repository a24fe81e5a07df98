section RULES
variable {Γ : GG → Prop} {dp : Nat} {cc : ByteArray} {own : String} {nL : Nat} {ret : Option FieldType} {ini : Bool} {a b : Nat} {L : List (Option Value)} {st : List Value} {F F1 F2 : HP → RS}
theorem gt_none : GT Γ dp cc own nL ret ini a L st (fun _ => none) := ⟨(fun x v z h => nomatch h), (fun G hΓ x0 z v p l e R s m args below meth c C x h => nomatch h)⟩
/-- an instruction that touches locals and stack alone -/
theorem gt_pure {L' : List (Option Value)} {st' : List Value} (b : Nat)
    (step : ∀ (G : GG) (p : Program) (l : Launch) (e : Env) (R : Room) (s : State) (m : MethodId) (args : Array Value) (below : List Frame) (meth : Method) (c : Code) (H : Heap) (locs : List Loc) (k n : Nat) (Q : State → Prop) (ls : Array Slot), p.tables.exec = Jvm.exec → c.code = cc → LH G ls nL L →
      (∀ ls' : Array Slot, LH G ls' nL L' → W p l e R s m args below meth c H locs k n Q (F0 m b ls' (st'.map (cV G)))) → W p l e R s m args below meth c H locs k n Q (F0 m a ls (st.map (cV G))))
    (K : GT Γ dp cc own nL ret ini b L' st' F) : GT Γ dp cc own nL ret ini a L st F :=
  ⟨K.1, fun G hΓ x0 z v p l e R s m args below meth c C x hx h0 H locs ls hL hP hS => step G p l e R s m args below meth c H locs _ _ _ ls C.1 C.2.1 hL (fun ls' hL' => K.2 G hΓ x0 z v p l e R s m args below meth c C x hx h0 H locs ls' hL' hP hS)⟩
def setL : List (Option Value) → Nat → Value → List (Option Value)
  | [], 0, v => [some v]
  | [], i + 1, v => none :: setL [] i v
  | _ :: l, 0, v => some v :: l
  | o :: l, i + 1, v => o :: setL l i v
def clrL : List (Option Value) → Nat → List (Option Value)
  | [], _ => []
  | _ :: l, 0 => none :: l
  | o :: l, i + 1 => o :: clrL l i
def okS : List (Option Value) → Nat → Bool
  | _, 0 => true
  | L, i + 1 => match L[i]? with
    | some (some v) => v.category == 1
    | _ => true
theorem setL_get : ∀ (L : List (Option Value)) (i : Nat) (v : Value) (j : Nat) (w : Value), (setL L i v)[j]? = some (some w) → (j = i ∧ w = v) ∨ (j ≠ i ∧ L[j]? = some (some w))
  | [], 0, v, j, w, h => by
    cases j with
    | zero => left; simp [setL] at h; exact ⟨rfl, h.symm⟩
    | succ j => simp [setL] at h
  | [], i + 1, v, j, w, h => by
    cases j with
    | zero => simp [setL] at h
    | succ j =>
      rw [setL, List.getElem?_cons_succ] at h
      rcases setL_get [] i v j w h with q | q
      · exact Or.inl ⟨by omega, q.2⟩
      · exact absurd q.2 (by simp)
  | o :: l, 0, v, j, w, h => by
    cases j with
    | zero => left; simp [setL] at h; exact ⟨rfl, h.symm⟩
    | succ j => right; rw [setL, List.getElem?_cons_succ] at h; exact ⟨by omega, by rw [List.getElem?_cons_succ]; exact h⟩
  | o :: l, i + 1, v, j, w, h => by
    cases j with
    | zero => right; rw [setL, List.getElem?_cons_zero] at h; exact ⟨by omega, by rw [List.getElem?_cons_zero]; exact h⟩
    | succ j =>
      rw [setL, List.getElem?_cons_succ] at h
      rcases setL_get l i v j w h with q | q
      · exact Or.inl ⟨by omega, q.2⟩
      · exact Or.inr ⟨by omega, by rw [List.getElem?_cons_succ]; exact q.2⟩
theorem clrL_get : ∀ (L : List (Option Value)) (i j : Nat) (w : Value), (clrL L i)[j]? = some (some w) → j ≠ i ∧ L[j]? = some (some w)
  | [], i, j, w, h => by simp [clrL] at h
  | o :: l, 0, j, w, h => by
    cases j with
    | zero => simp [clrL] at h
    | succ j => rw [clrL, List.getElem?_cons_succ] at h; exact ⟨by omega, by rw [List.getElem?_cons_succ]; exact h⟩
  | o :: l, i + 1, j, w, h => by
    cases j with
    | zero => rw [clrL, List.getElem?_cons_zero] at h; exact ⟨by omega, by rw [List.getElem?_cons_zero]; exact h⟩
    | succ j =>
      rw [clrL, List.getElem?_cons_succ] at h
      have q := clrL_get l i j w h
      exact ⟨by omega, by rw [List.getElem?_cons_succ]; exact q.2⟩
def asL (G : GG) (L : List (Option Value)) : List (Nat × Value) := (List.range L.length).filterMap (fun i => match L[i]? with
  | some (some v) => some (i, cV G v)
  | _ => none)
theorem asL_in {G : GG} {L : List (Option Value)} {i : Nat} {v : Value} (h : L[i]? = some (some v)) : (i, cV G v) ∈ asL G L := by
  refine List.mem_filterMap.mpr ⟨i, List.mem_range.mpr (List.getElem?_eq_some_iff.mp h).1, ?_⟩
  simp [h]
theorem asL_of {G : GG} {L : List (Option Value)} {q : Nat × Value} (h : q ∈ asL G L) : ∃ v, L[q.1]? = some (some v) ∧ q.2 = cV G v := by
  obtain ⟨i, -, hi⟩ := List.mem_filterMap.mp h
  cases hL : L[i]? with
  | none => rw [hL] at hi; cases hi
  | some o =>
    cases o with
    | none => rw [hL] at hi; cases hi
    | some v => rw [hL] at hi; cases hi; exact ⟨v, hL, rfl⟩
theorem LH.has {G : GG} {ls : Array Slot} {nL : Nat} {L : List (Option Value)} (h : LH G ls nL L) : lv_has ls nL (asL G L) :=
  ⟨h.1, h.2.1, fun q hq => by obtain ⟨v, h1, h2⟩ := asL_of hq; rw [h2]; exact h.2.2 q.1 v h1⟩
theorem cV_cat {G : GG} (v : Value) : (cV G v).category = v.category := by cases v <;> rfl
theorem okS_cat {L : List (Option Value)} {j : Nat} {w : Value} (hok : okS L (j + 1) = true) (h : L[j]? = some (some w)) : w.category = 1 := by
  have h2 : (match L[j]? with
    | some (some v) => v.category == 1
    | _ => true) = true := hok
  rw [h] at h2
  simpa using h2
theorem LH.st1 {G : GG} {ls' : Array Slot} {nL : Nat} {L : List (Option Value)} {i : Nat} {v : Value} (hok : okS L i = true) (h : lv_has ls' nL ((i, cV G v) :: (asL G L).filter (fun q => !(q.1 == i) && !(q.1 + 1 == i && q.2.category == 2)))) : LH G ls' nL (setL L i v) := by
  refine ⟨h.1, h.2.1, fun j w hj => ?_⟩
  rcases setL_get L i v j w hj with ⟨rfl, rfl⟩ | ⟨hne, hj⟩
  · exact h.2.2 (j, cV G w) List.mem_cons_self
  · refine h.2.2 (j, cV G w) (List.mem_cons_of_mem _ (List.mem_filter.mpr ⟨asL_in hj, ?_⟩))
    by_cases hji : j + 1 = i
    · subst hji
      have : w.category = 1 := okS_cat hok (by assumption)
      simp [cV_cat, this]
    · simp [hne, hji]
theorem LH.st2 {G : GG} {ls' : Array Slot} {nL : Nat} {L : List (Option Value)} {i : Nat} {v : Value} (hok : okS L i = true) (h : lv_has ls' nL ((i, cV G v) :: (asL G L).filter (fun q => !(q.1 == i) && (!(q.1 == i + 1) && !(q.1 + 1 == i && q.2.category == 2))))) : LH G ls' nL (setL (clrL L (i + 1)) i v) := by
  refine ⟨h.1, h.2.1, fun j w hj => ?_⟩
  rcases setL_get _ i v j w hj with ⟨rfl, rfl⟩ | ⟨hne, hj⟩
  · exact h.2.2 (j, cV G w) List.mem_cons_self
  · obtain ⟨hn2, hj⟩ := clrL_get _ _ _ _ hj
    refine h.2.2 (j, cV G w) (List.mem_cons_of_mem _ (List.mem_filter.mpr ⟨asL_in hj, ?_⟩))
    by_cases hji : j + 1 = i
    · subst hji
      have : w.category = 1 := okS_cat hok (by assumption)
      have h3 : ¬ j = j + 1 + 1 := by omega
      simp [cV_cat, this, h3]
    · simp [hne, hji, hn2]

theorem gt_iconst {n : Int} {v : Int32} (hd : decode cc a = .ok (.iconst n, 1)) (hv : Int32.ofInt n = v) (K : GT Γ dp cc own nL ret ini (a + 1) L (.int v :: st) F) : GT Γ dp cc own nL ret ini a L st F :=
  gt_pure _ (fun G p l e R s m args below meth c H locs k n Q ls hx hb hL kk => lv_iconst hx hb hd hv (kk ls hL)) K
theorem gt_bipush {n : Int} {v : Int32} (hd : decode cc a = .ok (.bipush n, 2)) (hv : (Int8.ofInt n).toInt32 = v) (K : GT Γ dp cc own nL ret ini (a + 2) L (.int v :: st) F) : GT Γ dp cc own nL ret ini a L st F :=
  gt_pure _ (fun G p l e R s m args below meth c H locs k n Q ls hx hb hL kk => lv_bipush hx hb hd hv (kk ls hL)) K
theorem gt_sipush {n : Int} {v : Int32} (hd : decode cc a = .ok (.sipush n, 3)) (hv : (Int16.ofInt n).toInt32 = v) (K : GT Γ dp cc own nL ret ini (a + 3) L (.int v :: st) F) : GT Γ dp cc own nL ret ini a L st F :=
  gt_pure _ (fun G p l e R s m args below meth c H locs k n Q ls hx hb hL kk => lv_sipush hx hb hd hv (kk ls hL)) K
theorem gt_lconst {n : Fin 2} {v : Int64} (hd : decode cc a = .ok (.lconst n, 1)) (hv : Int64.ofNat (n : Nat) = v) (K : GT Γ dp cc own nL ret ini (a + 1) L (.long v :: st) F) : GT Γ dp cc own nL ret ini a L st F :=
  gt_pure _ (fun G p l e R s m args below meth c H locs k n Q ls hx hb hL kk => lv_lconst hx hb hd hv (kk ls hL)) K
theorem gt_iload_n {k : Fin 4} {x : Int32} (hd : decode cc a = .ok (.iload_n k, 1)) (hl : L[(k : Nat)]? = some (some (.int x))) (K : GT Γ dp cc own nL ret ini (a + 1) L (.int x :: st) F) : GT Γ dp cc own nL ret ini a L st F :=
  gt_pure _ (fun G p l e R s m args below meth c H locs k n Q ls hx hb hL kk => lv_iload_n hx hb hd rfl (hL.2.2 _ _ hl) (kk ls hL)) K
theorem gt_iload {i : Nat} {x : Int32} (hd : decode cc a = .ok (.iload i, 2)) (hl : L[i]? = some (some (.int x))) (K : GT Γ dp cc own nL ret ini (a + 2) L (.int x :: st) F) : GT Γ dp cc own nL ret ini a L st F :=
  gt_pure _ (fun G p l e R s m args below meth c H locs k n Q ls hx hb hL kk => lv_iload hx hb hd (hL.2.2 _ _ hl) (kk ls hL)) K
theorem gt_lload_n {k : Fin 4} {x : Int64} (hd : decode cc a = .ok (.lload_n k, 1)) (hl : L[(k : Nat)]? = some (some (.long x))) (K : GT Γ dp cc own nL ret ini (a + 1) L (.long x :: st) F) : GT Γ dp cc own nL ret ini a L st F :=
  gt_pure _ (fun G p l e R s m args below meth c H locs k n Q ls hx hb hL kk => lv_lload_n hx hb hd rfl (hL.2.2 _ _ hl) (kk ls hL)) K
theorem gt_lload {i : Nat} {x : Int64} (hd : decode cc a = .ok (.lload i, 2)) (hl : L[i]? = some (some (.long x))) (K : GT Γ dp cc own nL ret ini (a + 2) L (.long x :: st) F) : GT Γ dp cc own nL ret ini a L st F :=
  gt_pure _ (fun G p l e R s m args below meth c H locs k n Q ls hx hb hL kk => lv_lload hx hb hd (hL.2.2 _ _ hl) (kk ls hL)) K
theorem gt_aload_n {k : Fin 4} {x : Nat} (hd : decode cc a = .ok (.aload_n k, 1)) (hl : L[(k : Nat)]? = some (some (.ref x))) (K : GT Γ dp cc own nL ret ini (a + 1) L (.ref x :: st) F) : GT Γ dp cc own nL ret ini a L st F :=
  gt_pure _ (fun G p l e R s m args below meth c H locs k n Q ls hx hb hL kk => lv_aload_n hx hb hd rfl (hL.2.2 _ _ hl) (kk ls hL)) K
theorem gt_aload {i : Nat} {x : Nat} (hd : decode cc a = .ok (.aload i, 2)) (hl : L[i]? = some (some (.ref x))) (K : GT Γ dp cc own nL ret ini (a + 2) L (.ref x :: st) F) : GT Γ dp cc own nL ret ini a L st F :=
  gt_pure _ (fun G p l e R s m args below meth c H locs k n Q ls hx hb hL kk => lv_aload hx hb hd (hL.2.2 _ _ hl) (kk ls hL)) K
theorem gt_istore_n {L' : List (Option Value)} {k : Fin 4} {x : Int32} (hd : decode cc a = .ok (.istore_n k, 1)) (hn : (k : Nat) < nL) (ho : okS L (k : Nat) = true) (hs : (setL L (k : Nat) (.int x)) = L') (K : GT Γ dp cc own nL ret ini (a + 1) L' st F) : GT Γ dp cc own nL ret ini a L (.int x :: st) F := by
  subst hs
  exact gt_pure _ (fun G p l e R s m args below meth c H locs k n Q ls hx hb hL kk => lv_istore_n hx hb hd rfl hL.has hn rfl (fun ls2 h2 => kk ls2 (LH.st1 (v := .int x) ho h2))) K
theorem gt_istore {L' : List (Option Value)} {i : Nat} {x : Int32} (hd : decode cc a = .ok (.istore i, 2)) (hn : i < nL) (ho : okS L i = true) (hs : (setL L i (.int x)) = L') (K : GT Γ dp cc own nL ret ini (a + 2) L' st F) : GT Γ dp cc own nL ret ini a L (.int x :: st) F := by
  subst hs
  exact gt_pure _ (fun G p l e R s m args below meth c H locs k n Q ls hx hb hL kk => lv_istore hx hb hd hL.has hn rfl (fun ls2 h2 => kk ls2 (LH.st1 (v := .int x) ho h2))) K
theorem gt_astore_n {L' : List (Option Value)} {k : Fin 4} {x : Nat} (hd : decode cc a = .ok (.astore_n k, 1)) (hn : (k : Nat) < nL) (ho : okS L (k : Nat) = true) (hs : (setL L (k : Nat) (.ref x)) = L') (K : GT Γ dp cc own nL ret ini (a + 1) L' st F) : GT Γ dp cc own nL ret ini a L (.ref x :: st) F := by
  subst hs
  exact gt_pure _ (fun G p l e R s m args below meth c H locs k n Q ls hx hb hL kk => lv_astore_n hx hb hd rfl hL.has hn rfl (fun ls2 h2 => kk ls2 (LH.st1 (v := .ref x) ho h2))) K
theorem gt_astore {L' : List (Option Value)} {i : Nat} {x : Nat} (hd : decode cc a = .ok (.astore i, 2)) (hn : i < nL) (ho : okS L i = true) (hs : (setL L i (.ref x)) = L') (K : GT Γ dp cc own nL ret ini (a + 2) L' st F) : GT Γ dp cc own nL ret ini a L (.ref x :: st) F := by
  subst hs
  exact gt_pure _ (fun G p l e R s m args below meth c H locs k n Q ls hx hb hL kk => lv_astore hx hb hd hL.has hn rfl (fun ls2 h2 => kk ls2 (LH.st1 (v := .ref x) ho h2))) K
theorem gt_lstore_n {L' : List (Option Value)} {k : Fin 4} {x : Int64} (hd : decode cc a = .ok (.lstore_n k, 1)) (hn : (k : Nat) + 1 < nL) (ho : okS L (k : Nat) = true) (hs : (setL (clrL L ((k : Nat) + 1)) (k : Nat) (.long x)) = L') (K : GT Γ dp cc own nL ret ini (a + 1) L' st F) : GT Γ dp cc own nL ret ini a L (.long x :: st) F := by
  subst hs
  exact gt_pure _ (fun G p l e R s m args below meth c H locs k n Q ls hx hb hL kk => lv_lstore_n hx hb hd rfl hL.has hn rfl (fun ls2 h2 => kk ls2 (LH.st2 (v := .long x) ho h2))) K
theorem gt_lstore {L' : List (Option Value)} {i : Nat} {x : Int64} (hd : decode cc a = .ok (.lstore i, 2)) (hn : i + 1 < nL) (ho : okS L i = true) (hs : (setL (clrL L (i + 1)) i (.long x)) = L') (K : GT Γ dp cc own nL ret ini (a + 2) L' st F) : GT Γ dp cc own nL ret ini a L (.long x :: st) F := by
  subst hs
  exact gt_pure _ (fun G p l e R s m args below meth c H locs k n Q ls hx hb hL kk => lv_lstore hx hb hd hL.has hn rfl (fun ls2 h2 => kk ls2 (LH.st2 (v := .long x) ho h2))) K
theorem gt_iinc {i : Nat} {n : Int} {x v : Int32} (hd : decode cc a = .ok (.iinc i n, 3)) (hl : L[i]? = some (some (.int x))) (hv : Int32.ofInt n = v) (hn : i < nL) (ho : okS L i = true) {L' : List (Option Value)} (hs : setL L i (.int (x + v)) = L') (K : GT Γ dp cc own nL ret ini (a + 3) L' st F) : GT Γ dp cc own nL ret ini a L st F := by
  subst hs
  exact gt_pure _ (fun G p l e R s m args below meth c H locs k n Q ls hx hb hL kk => lv_iinc (v := x + v) hx hb hd (lv := (i, .int x) :: asL G L) (k := 0) ⟨hL.1, hL.2.1, fun q hq => (List.mem_cons.mp hq).elim (fun e => by rw [e]; exact hL.2.2 _ _ hl) (hL.has.2.2 q)⟩ rfl (by rw [hv]) hn rfl (fun ls2 h2 => kk ls2 (LH.st1 (v := .int (x + v)) ho ⟨h2.1, h2.2.1, fun q hq => h2.2.2 q ((List.mem_cons.mp hq).elim (fun e => by rw [e]; exact List.mem_cons_self) (fun h => List.mem_cons_of_mem _ (by
    obtain ⟨h3, h4⟩ := List.mem_filter.mp h
    exact List.mem_filter.mpr ⟨List.mem_cons_of_mem _ h3, h4⟩)))⟩))) K
theorem gt_iadd {x y : Int32} (hd : decode cc a = .ok (.iadd, 1)) (K : GT Γ dp cc own nL ret ini (a + 1) L (.int (x + y) :: st) F) : GT Γ dp cc own nL ret ini a L (.int y :: .int x :: st) F :=
  gt_pure _ (fun G p l e R s m args below meth c H locs k n Q ls hx hb hL kk => lv_iadd hx hb hd (kk ls hL)) K
theorem gt_isub {x y : Int32} (hd : decode cc a = .ok (.isub, 1)) (K : GT Γ dp cc own nL ret ini (a + 1) L (.int (x - y) :: st) F) : GT Γ dp cc own nL ret ini a L (.int y :: .int x :: st) F :=
  gt_pure _ (fun G p l e R s m args below meth c H locs k n Q ls hx hb hL kk => lv_isub hx hb hd (kk ls hL)) K
theorem gt_imul {x y : Int32} (hd : decode cc a = .ok (.imul, 1)) (K : GT Γ dp cc own nL ret ini (a + 1) L (.int (x * y) :: st) F) : GT Γ dp cc own nL ret ini a L (.int y :: .int x :: st) F :=
  gt_pure _ (fun G p l e R s m args below meth c H locs k n Q ls hx hb hL kk => lv_imul hx hb hd (kk ls hL)) K
theorem gt_iand {x y : Int32} (hd : decode cc a = .ok (.iand, 1)) (K : GT Γ dp cc own nL ret ini (a + 1) L (.int (x &&& y) :: st) F) : GT Γ dp cc own nL ret ini a L (.int y :: .int x :: st) F :=
  gt_pure _ (fun G p l e R s m args below meth c H locs k n Q ls hx hb hL kk => lv_iand hx hb hd (kk ls hL)) K
theorem gt_ior {x y : Int32} (hd : decode cc a = .ok (.ior, 1)) (K : GT Γ dp cc own nL ret ini (a + 1) L (.int (x ||| y) :: st) F) : GT Γ dp cc own nL ret ini a L (.int y :: .int x :: st) F :=
  gt_pure _ (fun G p l e R s m args below meth c H locs k n Q ls hx hb hL kk => lv_ior hx hb hd (kk ls hL)) K
theorem gt_ixor {x y : Int32} (hd : decode cc a = .ok (.ixor, 1)) (K : GT Γ dp cc own nL ret ini (a + 1) L (.int (x ^^^ y) :: st) F) : GT Γ dp cc own nL ret ini a L (.int y :: .int x :: st) F :=
  gt_pure _ (fun G p l e R s m args below meth c H locs k n Q ls hx hb hL kk => lv_ixor hx hb hd (kk ls hL)) K
theorem gt_ishl {x y : Int32} (hd : decode cc a = .ok (.ishl, 1)) (K : GT Γ dp cc own nL ret ini (a + 1) L (.int (x <<< (y &&& 31)) :: st) F) : GT Γ dp cc own nL ret ini a L (.int y :: .int x :: st) F :=
  gt_pure _ (fun G p l e R s m args below meth c H locs k n Q ls hx hb hL kk => lv_ishl hx hb hd (kk ls hL)) K
theorem gt_ishr {x y : Int32} (hd : decode cc a = .ok (.ishr, 1)) (K : GT Γ dp cc own nL ret ini (a + 1) L (.int (x >>> (y &&& 31)) :: st) F) : GT Γ dp cc own nL ret ini a L (.int y :: .int x :: st) F :=
  gt_pure _ (fun G p l e R s m args below meth c H locs k n Q ls hx hb hL kk => lv_ishr hx hb hd (kk ls hL)) K
theorem gt_iushr {x y : Int32} (hd : decode cc a = .ok (.iushr, 1)) (K : GT Γ dp cc own nL ret ini (a + 1) L (.int (x.toUInt32 >>> (y.toUInt32 &&& Int32.toUInt32 31)).toInt32 :: st) F) : GT Γ dp cc own nL ret ini a L (.int y :: .int x :: st) F :=
  gt_pure _ (fun G p l e R s m args below meth c H locs k n Q ls hx hb hL kk => lv_iushr hx hb hd rfl (kk ls hL)) K
theorem gt_ineg {x : Int32} (hd : decode cc a = .ok (.ineg, 1)) (K : GT Γ dp cc own nL ret ini (a + 1) L (.int (-x) :: st) F) : GT Γ dp cc own nL ret ini a L (.int x :: st) F :=
  gt_pure _ (fun G p l e R s m args below meth c H locs k n Q ls hx hb hL kk => lv_ineg hx hb hd (kk ls hL)) K
theorem gt_idivK {x y : Int32} (hd : decode cc a = .ok (.idiv, 1)) (hne : ¬ y = 0) (K : GT Γ dp cc own nL ret ini (a + 1) L (.int (x / y) :: st) F) : GT Γ dp cc own nL ret ini a L (.int y :: .int x :: st) F :=
  gt_pure _ (fun G p l e R s m args below meth c H locs k n Q ls hx hb hL kk => lv_idiv hx hb hd hne (kk ls hL)) K
theorem gt_iremK {x y : Int32} (hd : decode cc a = .ok (.irem, 1)) (hne : ¬ y = 0) (K : GT Γ dp cc own nL ret ini (a + 1) L (.int (x - x / y * y) :: st) F) : GT Γ dp cc own nL ret ini a L (.int y :: .int x :: st) F :=
  gt_pure _ (fun G p l e R s m args below meth c H locs k n Q ls hx hb hL kk => lv_irem hx hb hd hne (kk ls hL)) K
theorem gt_ladd {x y : Int64} (hd : decode cc a = .ok (.ladd, 1)) (K : GT Γ dp cc own nL ret ini (a + 1) L (.long (x + y) :: st) F) : GT Γ dp cc own nL ret ini a L (.long y :: .long x :: st) F :=
  gt_pure _ (fun G p l e R s m args below meth c H locs k n Q ls hx hb hL kk => lv_ladd hx hb hd (kk ls hL)) K
theorem gt_lsub {x y : Int64} (hd : decode cc a = .ok (.lsub, 1)) (K : GT Γ dp cc own nL ret ini (a + 1) L (.long (x - y) :: st) F) : GT Γ dp cc own nL ret ini a L (.long y :: .long x :: st) F :=
  gt_pure _ (fun G p l e R s m args below meth c H locs k n Q ls hx hb hL kk => lv_lsub hx hb hd (kk ls hL)) K
theorem gt_lmul {x y : Int64} (hd : decode cc a = .ok (.lmul, 1)) (K : GT Γ dp cc own nL ret ini (a + 1) L (.long (x * y) :: st) F) : GT Γ dp cc own nL ret ini a L (.long y :: .long x :: st) F :=
  gt_pure _ (fun G p l e R s m args below meth c H locs k n Q ls hx hb hL kk => lv_lmul hx hb hd (kk ls hL)) K
theorem gt_land {x y : Int64} (hd : decode cc a = .ok (.land, 1)) (K : GT Γ dp cc own nL ret ini (a + 1) L (.long (x &&& y) :: st) F) : GT Γ dp cc own nL ret ini a L (.long y :: .long x :: st) F :=
  gt_pure _ (fun G p l e R s m args below meth c H locs k n Q ls hx hb hL kk => lv_land hx hb hd (kk ls hL)) K
theorem gt_lor {x y : Int64} (hd : decode cc a = .ok (.lor, 1)) (K : GT Γ dp cc own nL ret ini (a + 1) L (.long (x ||| y) :: st) F) : GT Γ dp cc own nL ret ini a L (.long y :: .long x :: st) F :=
  gt_pure _ (fun G p l e R s m args below meth c H locs k n Q ls hx hb hL kk => lv_lor hx hb hd (kk ls hL)) K
theorem gt_lshl {x : Int64} {y : Int32} (hd : decode cc a = .ok (.lshl, 1)) (K : GT Γ dp cc own nL ret ini (a + 1) L (.long (x <<< (y.toInt64 &&& 63)) :: st) F) : GT Γ dp cc own nL ret ini a L (.int y :: .long x :: st) F :=
  gt_pure _ (fun G p l e R s m args below meth c H locs k n Q ls hx hb hL kk => lv_lshl hx hb hd rfl (kk ls hL)) K
theorem gt_lshr {x : Int64} {y : Int32} (hd : decode cc a = .ok (.lshr, 1)) (K : GT Γ dp cc own nL ret ini (a + 1) L (.long (x >>> (y.toInt64 &&& 63)) :: st) F) : GT Γ dp cc own nL ret ini a L (.int y :: .long x :: st) F :=
  gt_pure _ (fun G p l e R s m args below meth c H locs k n Q ls hx hb hL kk => lv_lshr hx hb hd rfl (kk ls hL)) K
theorem gt_lushr {x : Int64} {y : Int32} (hd : decode cc a = .ok (.lushr, 1)) (K : GT Γ dp cc own nL ret ini (a + 1) L (.long ((x.toUInt64 >>> (y.toInt64.toUInt64 &&& Int64.toUInt64 63)).toInt64) :: st) F) : GT Γ dp cc own nL ret ini a L (.int y :: .long x :: st) F :=
  gt_pure _ (fun G p l e R s m args below meth c H locs k n Q ls hx hb hL kk => lv_lushr hx hb hd rfl (kk ls hL)) K
theorem gt_ldivK {x y : Int64} (hd : decode cc a = .ok (.ldiv, 1)) (hne : ¬ y = 0) (K : GT Γ dp cc own nL ret ini (a + 1) L (.long (x / y) :: st) F) : GT Γ dp cc own nL ret ini a L (.long y :: .long x :: st) F :=
  gt_pure _ (fun G p l e R s m args below meth c H locs k n Q ls hx hb hL kk => lv_ldiv hx hb hd hne (kk ls hL)) K
theorem gt_lremK {x y : Int64} (hd : decode cc a = .ok (.lrem, 1)) (hne : ¬ y = 0) (K : GT Γ dp cc own nL ret ini (a + 1) L (.long (x - x / y * y) :: st) F) : GT Γ dp cc own nL ret ini a L (.long y :: .long x :: st) F :=
  gt_pure _ (fun G p l e R s m args below meth c H locs k n Q ls hx hb hL kk => lv_lrem hx hb hd hne (kk ls hL)) K
theorem gt_lcmp {x y : Int64} (hd : decode cc a = .ok (.lcmp, 1)) (K : GT Γ dp cc own nL ret ini (a + 1) L (.int (lg_cmp x y) :: st) F) : GT Γ dp cc own nL ret ini a L (.long y :: .long x :: st) F :=
  gt_pure _ (fun G p l e R s m args below meth c H locs k n Q ls hx hb hL kk => W.lcmp hx hb hd (kk ls hL)) K
theorem gt_i2l {x : Int32} (hd : decode cc a = .ok (.i2l, 1)) (K : GT Γ dp cc own nL ret ini (a + 1) L (.long x.toInt64 :: st) F) : GT Γ dp cc own nL ret ini a L (.int x :: st) F :=
  gt_pure _ (fun G p l e R s m args below meth c H locs k n Q ls hx hb hL kk => lv_i2l hx hb hd rfl (kk ls hL)) K
theorem gt_l2i {x : Int64} (hd : decode cc a = .ok (.l2i, 1)) (K : GT Γ dp cc own nL ret ini (a + 1) L (.int x.toInt32 :: st) F) : GT Γ dp cc own nL ret ini a L (.long x :: st) F :=
  gt_pure _ (fun G p l e R s m args below meth c H locs k n Q ls hx hb hL kk => lv_l2i hx hb hd rfl (kk ls hL)) K
theorem gt_i2b {x : Int32} (hd : decode cc a = .ok (.i2b, 1)) (K : GT Γ dp cc own nL ret ini (a + 1) L (.int x.toInt8.toInt32 :: st) F) : GT Γ dp cc own nL ret ini a L (.int x :: st) F :=
  gt_pure _ (fun G p l e R s m args below meth c H locs k n Q ls hx hb hL kk => lv_i2b hx hb hd rfl (kk ls hL)) K
theorem gt_i2s {x : Int32} (hd : decode cc a = .ok (.i2s, 1)) (K : GT Γ dp cc own nL ret ini (a + 1) L (.int x.toInt16.toInt32 :: st) F) : GT Γ dp cc own nL ret ini a L (.int x :: st) F :=
  gt_pure _ (fun G p l e R s m args below meth c H locs k n Q ls hx hb hL kk => lv_i2s hx hb hd rfl (kk ls hL)) K
theorem gt_i2c {x : Int32} (hd : decode cc a = .ok (.i2c, 1)) (K : GT Γ dp cc own nL ret ini (a + 1) L (.int (x.toUInt32 % 65536).toInt32 :: st) F) : GT Γ dp cc own nL ret ini a L (.int x :: st) F :=
  gt_pure _ (fun G p l e R s m args below meth c H locs k n Q ls hx hb hL kk => lv_i2c hx hb hd rfl (kk ls hL)) K
theorem gt_dup {va : Value} (hd : decode cc a = .ok (.dup, 1))(hc : va.category = 1) (K : GT Γ dp cc own nL ret ini (a + 1) L (va :: va :: st) F) : GT Γ dp cc own nL ret ini a L (va :: st) F :=
  gt_pure _ (fun G p l e R s m args below meth c H locs k n Q ls hx hb hL kk => lv_dup hx hb hd (by rw [cV_cat]; exact hc) (kk ls hL)) K
theorem gt_pop {va : Value} (hd : decode cc a = .ok (.pop, 1))(hc : va.category = 1) (K : GT Γ dp cc own nL ret ini (a + 1) L st F) : GT Γ dp cc own nL ret ini a L (va :: st) F :=
  gt_pure _ (fun G p l e R s m args below meth c H locs k n Q ls hx hb hL kk => lv_pop hx hb hd (by rw [cV_cat]; exact hc) (kk ls hL)) K
theorem gt_dup_x1 {va vb : Value} (hd : decode cc a = .ok (.dup_x1, 1))(hc : va.category = 1) (hc2 : vb.category = 1) (K : GT Γ dp cc own nL ret ini (a + 1) L (va :: vb :: va :: st) F) : GT Γ dp cc own nL ret ini a L (va :: vb :: st) F :=
  gt_pure _ (fun G p l e R s m args below meth c H locs k n Q ls hx hb hL kk => lv_dup_x1 hx hb hd (by rw [cV_cat]; exact hc) (by rw [cV_cat]; exact hc2) (kk ls hL)) K
theorem gt_dup2 {va vb : Value} (hd : decode cc a = .ok (.dup2, 1))(hc : va.category = 1) (hc2 : vb.category = 1) (K : GT Γ dp cc own nL ret ini (a + 1) L (va :: vb :: va :: vb :: st) F) : GT Γ dp cc own nL ret ini a L (va :: vb :: st) F :=
  gt_pure _ (fun G p l e R s m args below meth c H locs k n Q ls hx hb hL kk => lv_dup2_11 hx hb hd (by rw [cV_cat]; exact hc) (by rw [cV_cat]; exact hc2) (kk ls hL)) K
theorem gt_null  (hd : decode cc a = .ok (.aconst_null, 1)) (K : GT Γ dp cc own nL ret ini (a + 1) L (.null :: st) F) : GT Γ dp cc own nL ret ini a L st F :=
  gt_pure _ (fun G p l e R s m args below meth c H locs k n Q ls hx hb hL kk => lv_null hx hb hd (kk ls hL)) K
theorem gt_goto {off : Int} {t : Nat} (hd : decode cc a = .ok (.goto off, 3)) (ht : (a : Int) + off = (t : Int)) (K : GT Γ dp cc own nL ret ini t L st F) : GT Γ dp cc own nL ret ini a L st F :=
  gt_pure _ (fun G p l e R s m args below meth c H locs k n Q ls hx hb hL kk => lv_goto hx hb hd ht (kk ls hL)) K
theorem gt_ifnullR {off : Int} {x : Nat} (hd : decode cc a = .ok (.ifnull off, 3)) (K : GT Γ dp cc own nL ret ini (a + 3) L st F) : GT Γ dp cc own nL ret ini a L (.ref x :: st) F :=
  gt_pure _ (fun G p l e R s m args below meth c H locs k n Q ls hx hb hL kk => lv_ifnull hx hb hd (kk ls hL)) K
theorem gt_ifnnR {off : Int} {t x : Nat} (hd : decode cc a = .ok (.ifnonnull off, 3)) (ht : (a : Int) + off = (t : Int)) (K : GT Γ dp cc own nL ret ini t L st F) : GT Γ dp cc own nL ret ini a L (.ref x :: st) F :=
  gt_pure _ (fun G p l e R s m args below meth c H locs k n Q ls hx hb hL kk => lv_ifnonnull hx hb hd ht (kk ls hL)) K
theorem gt_sub {L0 : List (Option Value)} (h : ∀ (i : Nat) (v : Value), L0[i]? = some (some v) → L[i]? = some (some v)) (K : GT Γ dp cc own nL ret ini a L0 st F) : GT Γ dp cc own nL ret ini a L st F :=
  ⟨K.1, fun G hΓ x0 z v p l e R s m args below meth c C x hx h0 H locs ls hL hP hS => K.2 G hΓ x0 z v p l e R s m args below meth c C x hx h0 H locs ls ⟨hL.1, hL.2.1, fun i v hv => hL.2.2 i v (h i v hv)⟩ hP hS⟩
def subL : List (Option Value) → List (Option Value) → Prop
  | [], _ => True
  | none :: a, _ :: b => subL a b
  | none :: a, [] => subL a []
  | some v :: a, w :: b => w = some v ∧ subL a b
  | some _ :: _, [] => False
theorem subL_get : ∀ (L0 L : List (Option Value)), subL L0 L → ∀ (i : Nat) (v : Value), L0[i]? = some (some v) → L[i]? = some (some v)
  | [], _, _, i, v, h => by simp at h
  | none :: a, w :: b, hs, i, v, h => by
    cases i with
    | zero => simp at h
    | succ i => rw [List.getElem?_cons_succ] at h ⊢; exact subL_get a b hs i v h
  | none :: a, [], hs, i, v, h => by
    cases i with
    | zero => simp at h
    | succ i => rw [List.getElem?_cons_succ] at h; exact absurd (subL_get a [] hs i v h) (by simp)
  | some u :: a, w :: b, hs, i, v, h => by
    cases i with
    | zero => rw [List.getElem?_cons_zero] at h ⊢; rw [hs.1]; exact h
    | succ i => rw [List.getElem?_cons_succ] at h ⊢; exact subL_get a b hs.2 i v h
theorem gt_to (L0 : List (Option Value)) (h : subL L0 L) (K : GT Γ dp cc own nL ret ini a L0 st F) : GT Γ dp cc own nL ret ini a L st F := gt_sub (subL_get L0 L h) K
/-! branches -/
def iteT (p : Prop) [Decidable p] (A B : HP → RS) : HP → RS := fun x => if p then A x else B x
theorem gt_ite {t : Nat} {P : Prop} [Decidable P] {st' : List Value}
    (step : ∀ (G : GG) (p : Program) (l : Launch) (e : Env) (R : Room) (s : State) (m : MethodId) (args : Array Value) (below : List Frame) (meth : Method) (c : Code) (H : Heap) (locs : List Loc) (k n : Nat) (Q : State → Prop) (ls : Array Slot), p.tables.exec = Jvm.exec → c.code = cc →
      (P → W p l e R s m args below meth c H locs k n Q (F0 m t ls (st'.map (cV G)))) → (¬ P → W p l e R s m args below meth c H locs k n Q (F0 m b ls (st'.map (cV G)))) → W p l e R s m args below meth c H locs k n Q (F0 m a ls (st.map (cV G))))
    (K1 : GT Γ dp cc own nL ret ini t L st' F1) (K2 : GT Γ dp cc own nL ret ini b L st' F2) : GT Γ dp cc own nL ret ini a L st (iteT P F1 F2) := by
  refine ⟨fun x v z h => ?_, fun G hΓ x0 z v p l e R s m args below meth c C x hx h0 H locs ls hL hP hS => step G p l e R s m args below meth c H locs _ _ _ ls C.1 C.2.1 (fun hp => ?_) (fun hp => ?_)⟩
  · unfold iteT at h
    split at h
    · exact K1.1 x v z h
    · exact K2.1 x v z h
  · unfold iteT at hx
    rw [if_pos hp] at hx
    exact K1.2 G hΓ x0 z v p l e R s m args below meth c C x hx h0 H locs ls hL hP hS
  · unfold iteT at hx
    rw [if_neg hp] at hx
    exact K2.2 G hΓ x0 z v p l e R s m args below meth c C x hx h0 H locs ls hL hP hS
theorem gt_if_eq {x : Int32} {off : Int} {t : Nat} (hd : decode cc a = .ok (.ifCond .eq off, 3)) (ht : (a : Int) + off = (t : Int)) (K1 : GT Γ dp cc own nL ret ini t L st F1) (K2 : GT Γ dp cc own nL ret ini (a + 3) L st F2) : GT Γ dp cc own nL ret ini a L (.int x :: st) (iteT (x = 0) F1 F2) :=
  gt_ite (fun G p l e R s m args below meth c H locs k n Q ls hx hb k1 k2 => lv_if_eq hx hb hd ht k1 k2) K1 K2
theorem gt_icmp_eq {x y : Int32} {off : Int} {t : Nat} (hd : decode cc a = .ok (.if_icmp .eq off, 3)) (ht : (a : Int) + off = (t : Int)) (K1 : GT Γ dp cc own nL ret ini t L st F1) (K2 : GT Γ dp cc own nL ret ini (a + 3) L st F2) : GT Γ dp cc own nL ret ini a L (.int y :: .int x :: st) (iteT (x = y) F1 F2) :=
  gt_ite (fun G p l e R s m args below meth c H locs k n Q ls hx hb k1 k2 => lv_icmp_eq hx hb hd ht k1 k2) K1 K2
theorem gt_if_lt {x : Int32} {off : Int} {t : Nat} (hd : decode cc a = .ok (.ifCond .lt off, 3)) (ht : (a : Int) + off = (t : Int)) (K1 : GT Γ dp cc own nL ret ini t L st F1) (K2 : GT Γ dp cc own nL ret ini (a + 3) L st F2) : GT Γ dp cc own nL ret ini a L (.int x :: st) (iteT (x < 0) F1 F2) :=
  gt_ite (fun G p l e R s m args below meth c H locs k n Q ls hx hb k1 k2 => lv_if_lt hx hb hd ht k1 k2) K1 K2
theorem gt_icmp_lt {x y : Int32} {off : Int} {t : Nat} (hd : decode cc a = .ok (.if_icmp .lt off, 3)) (ht : (a : Int) + off = (t : Int)) (K1 : GT Γ dp cc own nL ret ini t L st F1) (K2 : GT Γ dp cc own nL ret ini (a + 3) L st F2) : GT Γ dp cc own nL ret ini a L (.int y :: .int x :: st) (iteT (x < y) F1 F2) :=
  gt_ite (fun G p l e R s m args below meth c H locs k n Q ls hx hb k1 k2 => lv_icmp_lt hx hb hd ht k1 k2) K1 K2
theorem gt_if_ge {x : Int32} {off : Int} {t : Nat} (hd : decode cc a = .ok (.ifCond .ge off, 3)) (ht : (a : Int) + off = (t : Int)) (K1 : GT Γ dp cc own nL ret ini t L st F1) (K2 : GT Γ dp cc own nL ret ini (a + 3) L st F2) : GT Γ dp cc own nL ret ini a L (.int x :: st) (iteT (0 ≤ x) F1 F2) :=
  gt_ite (fun G p l e R s m args below meth c H locs k n Q ls hx hb k1 k2 => lv_if_ge hx hb hd ht k1 k2) K1 K2
theorem gt_icmp_ge {x y : Int32} {off : Int} {t : Nat} (hd : decode cc a = .ok (.if_icmp .ge off, 3)) (ht : (a : Int) + off = (t : Int)) (K1 : GT Γ dp cc own nL ret ini t L st F1) (K2 : GT Γ dp cc own nL ret ini (a + 3) L st F2) : GT Γ dp cc own nL ret ini a L (.int y :: .int x :: st) (iteT (y ≤ x) F1 F2) :=
  gt_ite (fun G p l e R s m args below meth c H locs k n Q ls hx hb k1 k2 => lv_icmp_ge hx hb hd ht k1 k2) K1 K2
theorem gt_if_gt {x : Int32} {off : Int} {t : Nat} (hd : decode cc a = .ok (.ifCond .gt off, 3)) (ht : (a : Int) + off = (t : Int)) (K1 : GT Γ dp cc own nL ret ini t L st F1) (K2 : GT Γ dp cc own nL ret ini (a + 3) L st F2) : GT Γ dp cc own nL ret ini a L (.int x :: st) (iteT (0 < x) F1 F2) :=
  gt_ite (fun G p l e R s m args below meth c H locs k n Q ls hx hb k1 k2 => lv_if_gt hx hb hd ht k1 k2) K1 K2
theorem gt_icmp_gt {x y : Int32} {off : Int} {t : Nat} (hd : decode cc a = .ok (.if_icmp .gt off, 3)) (ht : (a : Int) + off = (t : Int)) (K1 : GT Γ dp cc own nL ret ini t L st F1) (K2 : GT Γ dp cc own nL ret ini (a + 3) L st F2) : GT Γ dp cc own nL ret ini a L (.int y :: .int x :: st) (iteT (y < x) F1 F2) :=
  gt_ite (fun G p l e R s m args below meth c H locs k n Q ls hx hb k1 k2 => lv_icmp_gt hx hb hd ht k1 k2) K1 K2
theorem gt_if_le {x : Int32} {off : Int} {t : Nat} (hd : decode cc a = .ok (.ifCond .le off, 3)) (ht : (a : Int) + off = (t : Int)) (K1 : GT Γ dp cc own nL ret ini t L st F1) (K2 : GT Γ dp cc own nL ret ini (a + 3) L st F2) : GT Γ dp cc own nL ret ini a L (.int x :: st) (iteT (x ≤ 0) F1 F2) :=
  gt_ite (fun G p l e R s m args below meth c H locs k n Q ls hx hb k1 k2 => lv_if_le hx hb hd ht k1 k2) K1 K2
theorem gt_icmp_le {x y : Int32} {off : Int} {t : Nat} (hd : decode cc a = .ok (.if_icmp .le off, 3)) (ht : (a : Int) + off = (t : Int)) (K1 : GT Γ dp cc own nL ret ini t L st F1) (K2 : GT Γ dp cc own nL ret ini (a + 3) L st F2) : GT Γ dp cc own nL ret ini a L (.int y :: .int x :: st) (iteT (x ≤ y) F1 F2) :=
  gt_ite (fun G p l e R s m args below meth c H locs k n Q ls hx hb k1 k2 => lv_icmp_le hx hb hd ht k1 k2) K1 K2
theorem gt_if_ne {x : Int32} {off : Int} {t : Nat} (hd : decode cc a = .ok (.ifCond .ne off, 3)) (ht : (a : Int) + off = (t : Int)) (K1 : GT Γ dp cc own nL ret ini t L st F1) (K2 : GT Γ dp cc own nL ret ini (a + 3) L st F2) : GT Γ dp cc own nL ret ini a L (.int x :: st) (iteT (x = 0) F2 F1) :=
  gt_ite (fun G p l e R s m args below meth c H locs k n Q ls hx hb k1 k2 => lv_if_ne hx hb hd ht k2 k1) K2 K1
theorem gt_icmp_ne {x y : Int32} {off : Int} {t : Nat} (hd : decode cc a = .ok (.if_icmp .ne off, 3)) (ht : (a : Int) + off = (t : Int)) (K1 : GT Γ dp cc own nL ret ini t L st F1) (K2 : GT Γ dp cc own nL ret ini (a + 3) L st F2) : GT Γ dp cc own nL ret ini a L (.int y :: .int x :: st) (iteT (x = y) F2 F1) :=
  gt_ite (fun G p l e R s m args below meth c H locs k n Q ls hx hb k1 k2 => lv_icmp_ne hx hb hd ht k2 k1) K2 K1
/-- a divisor that must not be 0 -/
def dvT (y : Int32) (A : HP → RS) : HP → RS := fun x => if y = 0 then none else A x
def dvTl (y : Int64) (A : HP → RS) : HP → RS := fun x => if y = 0 then none else A x
theorem gt_dv {y : Int32} (K : ¬ y = 0 → GT Γ dp cc own nL ret ini a L st F) : GT Γ dp cc own nL ret ini a L st (dvT y F) := by
  by_cases h : y = 0
  · refine ⟨fun x v z hx => ?_, fun G hΓ x0 z v p l e R s m args below meth c C x hx => ?_⟩ <;> (unfold dvT at hx; rw [if_pos h] at hx; cases hx)
  · have e : dvT y F = F := by funext x; unfold dvT; rw [if_neg h]
    rw [e]; exact K h
theorem gt_dvl {y : Int64} (K : ¬ y = 0 → GT Γ dp cc own nL ret ini a L st F) : GT Γ dp cc own nL ret ini a L st (dvTl y F) := by
  by_cases h : y = 0
  · refine ⟨fun x v z hx => ?_, fun G hΓ x0 z v p l e R s m args below meth c C x hx => ?_⟩ <;> (unfold dvTl at hx; rw [if_pos h] at hx; cases hx)
  · have e : dvTl y F = F := by funext x; unfold dvTl; rw [if_neg h]
    rw [e]; exact K h
/-- null, or a cell -/
def oN (q : Option Nat) (A : HP → RS) (B : Nat → HP → RS) : HP → RS := match q with
  | none => A
  | some c => B c
theorem gt_ifnull0 {off : Int} {t : Nat} (hd : decode cc a = .ok (.ifnull off, 3)) (ht : (a : Int) + off = (t : Int)) (K : GT Γ dp cc own nL ret ini t L st F) : GT Γ dp cc own nL ret ini a L (.null :: st) F :=
  gt_pure _ (fun G p l e R s m args below meth c H locs k n Q ls hx hb hL kk => lv_ifnullN hx hb hd ht (kk ls hL)) K
theorem gt_ifnn0 {off : Int} (hd : decode cc a = .ok (.ifnonnull off, 3)) (K : GT Γ dp cc own nL ret ini (a + 3) L st F) : GT Γ dp cc own nL ret ini a L (.null :: st) F :=
  gt_pure _ (fun G p l e R s m args below meth c H locs k n Q ls hx hb hL kk => lv_ifnonnullN hx hb hd (kk ls hL)) K
end RULES
