/-! ===== the abstract world: cells by number; what a method does to them as a function ===== -/
abbrev GG : Type := Nat × (Nat → Nat) × va_G × (Nat → ClassId)
abbrev HP : Type := Nat × (Nat → va_E)
abbrev RS : Type := Option (Option Value × HP)
/-- where cell c lies: the world's cells from B on, those from number 1000 on elsewhere -/
def cA (G : GG) (c : Nat) : Nat := if c < 1000 then G.1 + c else G.2.1 (c - 1000)
def cV (G : GG) : Value → Value
  | .ref c => .ref (cA G c)
  | v => v
def cE (G : GG) : va_E → va_E
  | .inl (t, n, .inl f) => .inl (G.2.2.2 t, n, .inl f)
  | .inl (t, n, .inr (.inr (.inr (.inr f)))) => .inl (G.2.2.2 t, n, .inr (.inr (.inr (.inr (fun j => (f j).map (cA G))))))
  | .inl (t, x) => .inl (G.2.2.2 t, x)
  | .inr (ci, fs) => .inr (ci, fs.map (cV G))
def wl (G : GG) (x : HP) : va_W := (List.range x.1).map (fun c => (G.1 + c, cE G (x.2 c)))
def upH (h : Nat → va_E) (c : Nat) (e : va_E) : Nat → va_E := fun j => if j = c then e else h j
def RP (G : GG) (x : HP) (H : Heap) : Prop := x.1 ≤ 1000 ∧ H.size = G.1 + x.1 ∧ va_P G.2.2.1 vwCl (wl G x) H
def AA (G : GG) : Nat → Prop := fun q => G.1 ≤ q
def tyL (G : GG) : List (ClassId × FieldType) := [(G.2.2.2 0, .int), (G.2.2.2 1, .boolean), (G.2.2.2 2, .array .int), (G.2.2.2 3, .object "LastInBox$Sheet"), (G.2.2.2 4, .object "LastInBox$Heap")]
theorem wl_get {G : GG} {x : HP} {c : Nat} (h : c < x.1) : (wl G x)[c]? = some (G.1 + c, cE G (x.2 c)) := by
  simp [wl, h]
theorem wl_len {G : GG} {x : HP} : (wl G x).length = x.1 := by simp [wl]
theorem wl_set {G : GG} {n c : Nat} {h : Nat → va_E} {e : va_E} (hc : c < n) : (wl G (n, h)).set c (G.1 + c, cE G e) = wl G (n, upH h c e) := by
  apply List.ext_getElem?
  intro i
  by_cases hi : i = c
  · subst hi
    rw [List.getElem?_set_self (by rw [wl_len]; exact hc), wl_get (x := (n, upH h i e)) hc]
    simp [upH]
  · rw [List.getElem?_set_ne (Ne.symm hi)]
    by_cases hn : i < n
    · rw [wl_get (x := (n, h)) hn, wl_get (x := (n, upH h c e)) hn]
      simp [upH, hi]
    · rw [List.getElem?_eq_none (by rw [wl_len]; omega), List.getElem?_eq_none (by rw [wl_len]; omega)]
theorem wl_push {G : GG} {n : Nat} {h : Nat → va_E} {e : va_E} : wl G (n + 1, upH h n e) = wl G (n, h) ++ [(G.1 + n, cE G e)] := by
  unfold wl
  rw [List.range_succ, List.map_append]
  congr 1
  · apply List.map_congr_left
    intro c hc
    have := List.mem_range.mp hc
    simp [upH, Nat.ne_of_lt this]
  · simp [upH]
theorem wl_D {G : GG} {x : HP} : va_D (AA G) (wl G x) := by
  have key : ∀ (k : Nat) (q : Nat × va_E), (wl G x)[k]? = some q → q.1 = G.1 + k := by
    intro k q hk
    have hl := (List.getElem?_eq_some_iff.mp hk).1
    rw [wl_len] at hl
    rw [wl_get hl] at hk
    cases hk
    rfl
  refine ⟨fun i j p q hi hj hpq => ?_, fun k q hk => ?_⟩
  · have h1 := key i p hi
    have h2 := key j q hj
    omega
  · rw [key k q hk]
    exact Nat.le_add_right _ _
/-! what was there before: two tables, three texts, a static, the nest's constructors -/
def kAb (j : Nat) : Int32 := ([-1, 0, 0, 0, 1, 2, 1] : List Int32).getD j 0
def kBo (j : Nat) : Int32 := ([10, 11, 12, 13, 20, 0, 0, 21, 0, 30, 0, 0, 0, 0, 40, 0, 50, 0, 51, 0, 0, 60, 0, 0, 70, 71, 0, 0] : List Int32).getD j 0
def kLen : List Nat := [0, 4, 3]
def kByt : List (List Int32) := [[], [119, 108, 107, 109], [115, 119, 116]]
def nestW : List (String × Nat × MethodName) := [(RX9, 46, yX8_init), (RX9, 53, yX6_init), (RX9, 9, yX2_init), (RX1, 11, yX3_init), (RX2, 15, yX3_init), (RX2, 25, yX7_init), (RX5, 9, yX7_init)]
def EXT (G : GG) (U : State) (H : Heap) : Prop :=
  va_Z "LastInBox$Kinds" "ABOVE" "[I" (.ref (G.2.1 0)) (AA G) U H ∧ va_T .int (G.2.1 0) 7 (fun j => .int (kAb j)) (AA G) U H ∧
  va_Z "LastInBox$Kinds" "BODIES" "[I" (.ref (G.2.1 1)) (AA G) U H ∧ va_T .int (G.2.1 1) 28 (fun j => .int (kBo j)) (AA G) U H ∧
  va_Z "java/lang/String" "COMPACT_STRINGS" "Z" (.int 1) (AA G) U H ∧
  vk_S 3 kLen kByt (fun i => G.2.1 (2 + i)) (fun i => G.2.1 (5 + i)) (AA G) U H ∧
  (va_X (G.2.1 8) (G.2.1 9) (fun j => nI (G.2.1 (10 + j))) U H ∧ G.2.1 8 < G.1)
/-- the class of arrays of int rows: what the tables say of it -/
def zz_AOA (U : State) : Prop := ∃ (comp c : Nat) (k : Class), U.vm.findClass (FieldType.array .int).toString = some comp ∧ (U.vm.classes.findIdx? fun (x : Class) => match x.kind with | .array component _ => component == comp | _ => false) = some c ∧ U.vm.classes[c]? = some k ∧ k.kind = .array comp (.array .int) ∧ U.vm.findClass ("[" ++ (FieldType.array .int).toString) = some c
theorem zz_AOA.moved {u U : State} (hvm : u.vm.Alike U.vm) (h : zz_AOA u) : zz_AOA U := by
  obtain ⟨comp, c, k, h1, h2, h3, h4, h5⟩ := h
  obtain ⟨k', hk', he⟩ := hvm.2.2 _ _ h3
  exact ⟨comp, c, k', by rw [hvm.findClass]; exact h1, (hvm.findIdx?_eqK _ (fun _ => rfl)).trans h2, hk', by rw [he]; exact h4, by rw [hvm.findClass]; exact h5⟩
theorem zz_AOA.use {U : State} {args : Array Value} (h : zz_AOA U) : (Cond.arrayOver (.array .int)).before args U = true := by
  obtain ⟨comp, c, k, h1, h2, h3, h4, h5⟩ := h
  unfold Cond.before Cond.holds
  simp only [Cond.value]
  rw [h1, Option.bind_some]
  refine (congrArg (fun o : Option Nat => (o.bind (fun c => (U.vm.classes[c]?).map fun (k : Class) => match k.kind with | .array _ ty => decide (ty = FieldType.array .int) && decide (U.vm.findClass ("[" ++ (FieldType.array .int).toString) = some c) | _ => false) == some true)) h2).trans ?_
  simp [h3, h4, h5]
theorem zz_AOA.of {U : State} {args : Array Value} (h : (Cond.arrayOver (.array .int)).before args U = true) : zz_AOA U := by
  simp only [Cond.before, Cond.holds, Cond.value, beq_iff_eq] at h
  cases h1 : U.vm.findClass (FieldType.array .int).toString with
  | none => rw [h1] at h; cases h
  | some comp =>
    rw [h1, Option.bind_some] at h
    have h : ((U.vm.classes.findIdx? fun (x : Class) => match x.kind with | .array component _ => component == comp | _ => false).bind fun c => (U.vm.classes[c]?).map fun (k : Class) => match k.kind with | .array _ ty => decide (ty = FieldType.array .int) && decide (U.vm.findClass ("[" ++ (FieldType.array .int).toString) = some c) | _ => false) = some true := h
    cases h2 : (U.vm.classes.findIdx? fun (x : Class) => match x.kind with | .array component _ => component == comp | _ => false) with
    | none => rw [h2] at h; cases h
    | some c =>
      rw [h2, Option.bind_some] at h
      cases h3 : U.vm.classes[c]? with
      | none => rw [h3] at h; cases h
      | some k =>
        rw [h3] at h
        simp only [Option.map_some, Option.some.injEq] at h
        split at h
        · rename_i comp2 ty hk
          simp only [Bool.and_eq_true, decide_eq_true_eq] at h
          refine ⟨comp, c, k, h1, h2, h3, ?_, h.2⟩
          obtain ⟨hlt, hp, -⟩ := Array.findIdx?_eq_some_iff_getElem.mp h2
          have hk2 : U.vm.classes[c] = k := by
            rw [Array.getElem?_eq_getElem hlt] at h3
            exact Option.some.inj h3
          rw [hk2, hk] at hp
          simp only [beq_iff_eq] at hp
          rw [hk, hp, h.1]
        · cases h
def EXW (G : GG) (U : State) : Prop :=
  vk_R "LastInBox$Reader" 16 "" (G.2.1 2) U ∧ vk_R "LastInBox" 147 "wlkm" (G.2.1 3) U ∧ vk_R "LastInBox" 149 "swt" (G.2.1 4) U ∧
  (∀ q ∈ nestW, va_Nw (.methodLinkNest q.1 q.2.1 q.2.2 "LastInBox") U) ∧ va_AO "LastInBox$Sheet" U ∧ va_AO "LastInBox$Heap" U ∧ zz_AOA U
def KX (G : GG) (U : State) : Prop := va_K G.2.2.1 vwCl (tyL G) U ∧ EXT G U U.heap ∧ EXW G U
theorem EXW.warm {G : GG} {s U : State} (hW : s.WarmedH U.vm) (h : EXW G s) : EXW G U :=
  ⟨vk_R.warm hW h.1, vk_R.warm hW h.2.1, vk_R.warm hW h.2.2.1, fun q hq => va_Nw.warmM hW (h.2.2.2.1 q hq), va_AO.moved hW.alike h.2.2.2.2.1, va_AO.moved hW.alike h.2.2.2.2.2.1, zz_AOA.moved hW.alike h.2.2.2.2.2.2⟩
theorem EXT.to {G : GG} {s U : State} {H : Heap} {locs : List Loc} (hvm : s.vm.Alike U.vm) (hS : va_S (AA G) s.heap H locs) (h : EXT G s s.heap) : EXT G U H := by
  obtain ⟨h1, h2, h3, h4, h5, h6, h7, h8⟩ := h
  have hq : ∀ a : Nat, a < s.heap.size → ¬ AA G a → H[a]? = s.heap[a]? := hS.2.1
  exact ⟨va_Z.moved hvm (va_Z.kept h1 hq), va_T.moved hvm (va_T.kept h2 hq), va_Z.moved hvm (va_Z.kept h3 hq), va_T.moved hvm (va_T.kept h4 hq), va_Z.moved hvm (va_Z.kept h5 hq), vk_S.moved hvm (vk_S.kept h6 hq), va_X.moved hvm (va_X.kept h7 (hq _ (by obtain ⟨scr, g1, -⟩ := h7; exact (Array.getElem?_eq_some_iff.mp g1).1) (Nat.not_le.mpr h8))), h8⟩
theorem KX.to {G : GG} {s U : State} {H : Heap} {locs : List Loc} (hW : s.WarmedH U.vm) (hU : U.heap = H) (hS : va_S (AA G) s.heap H locs) (h : KX G s) : KX G U :=
  ⟨va_K.moved hW.alike h.1, by rw [hU]; exact h.2.1.to hW.alike hS, h.2.2.warm hW⟩
/-! the words -/
def TB : List Cond := lw_tbl.filter goodWord
theorem tb_in {y : MethodName} {cc : ByteArray} {maxL : Nat} {ret : Option FieldType} (h : Cond.code y cc maxL ret ∈ TB) : GoodIn TB (.code y cc maxL ret :: TB) := by
  intro w hw
  have hm : w ∈ TB := (List.mem_cons.mp hw).elim (fun e => e ▸ h) id
  exact ⟨hm, good_of_word (List.mem_filter.mp hm).2⟩
/-! the results' table, the room -/
/-- how many slots each cell has, by number -/
def szL : List Nat := [9, 16, 6, 3, 24, 6, 3, 60, 60, 3, 60, 60, 36, 60, 24, 16, 6, 3, 24, 6, 3, 60, 60, 3, 60, 60, 36, 60, 24, 7, 24, 4, 14, 7, 3, 24, 3, 24, 3, 24, 3, 24, 3, 24, 3, 24, 3, 24, 5, 6, 6, 6, 6, 6, 4, 6, 6, 6, 6, 4, 3, 60, 60, 5, 30, 4, 3, 24, 3, 24, 3, 24, 3, 24, 7, 34, 416, 416, 656, 7, 124, 128, 64, 24, 24, 6, 6, 6, 30, 4, 4, 96, 24]
def szc (c : Nat) : Nat := szL.getD c 0
def sz : Nat → Nat
  | 0 => 0
  | n + 1 => sz n + szc n
theorem sz_mono {a b : Nat} (h : a ≤ b) : sz a ≤ sz b := by
  induction b with
  | zero => rw [Nat.le_zero.mp h]; exact Nat.le_refl _
  | succ b ih =>
    rcases Nat.lt_or_ge a (b + 1) with q | q
    · exact Nat.le_trans (ih (by omega)) (Nat.le_add_right _ _)
    · rw [show a = b + 1 by omega]; exact Nat.le_refl _
def rmK (dp : Nat) (x y : HP) : Room := { frames := dp, cells := y.1 - x.1, slots := sz y.1 - sz x.1, locals := 64 * dp }
def QE (G : GG) (v : Option Value) (y : HP) : Array Value → State → Outcome → State → Prop := fun _ st o t => o = .returned (v.map (cV G)) ∧ RP G y t.heap ∧ va_F (AA G) st t
/-- what a method is, as a function: it takes the world x to the answer v and the world z -/
def Ct (dp : Nat) (y : MethodName) (cc : ByteArray) (maxL : Nat) (ret : Option FieldType) (av : List Value) (g : HP → RS) : Prop :=
  (∀ x v z, g x = some (v, z) → x.1 ≤ z.1) ∧
  ∀ (l : Launch) (G : GG) (x : HP) (v : Option Value) (z : HP), g x = some (v, z) →
    Met l y (.code y cc maxL ret :: TB) (rmK dp x z) (va_Pc (av.map (cV G)) (fun U => RP G x U.heap ∧ KX G U)) (QE G v z) (z.1 - x.1) (sz z.1 - sz x.1) (AA G)
/-- what holds all along a method's run -/
def CX (G : GG) (dp : Nat) (cc : ByteArray) (own : String) (nL : Nat) (ret : Option FieldType) (ini : Bool) (x0 z : HP) (p : Program) (l : Launch) (e : Env) (R : Room) (s : State) (m : MethodId) (args : Array Value) (below : List Frame) (meth : Method) (c : Code) : Prop :=
  p.tables.exec = Jvm.exec ∧ c.code = cc ∧ c.maxLocals = nL ∧ s.vm.findClass own = some m.cls ∧ (∀ w ∈ TB, w.before args s = true) ∧ meth.sig.returnType = ret ∧ meth.locks = false ∧ KX G s ∧ RP G x0 s.heap ∧ R = rmK dp x0 z ∧ (ini = true → meth.name = "<init>")
/-- the locals: those that are known, by place -/
def LH (G : GG) (ls : Array Slot) (nL : Nat) (L : List (Option Value)) : Prop := ls.size = nL ∧ lv_wf ls ∧ ∀ (i : Nat) (v : Value), L[i]? = some (some v) → ls[i]? = some (.val (cV G v))
/-- from place a of the code on, with these locals and this stack, the method does what F says -/
def GT (Γ : GG → Prop) (dp : Nat) (cc : ByteArray) (own : String) (nL : Nat) (ret : Option FieldType) (ini : Bool) (a : Nat) (L : List (Option Value)) (st : List Value) (F : HP → RS) : Prop :=
  (∀ x v z, F x = some (v, z) → x.1 ≤ z.1) ∧
  ∀ (G : GG), Γ G → ∀ (x0 z : HP) (v : Option Value) (p : Program) (l : Launch) (e : Env) (R : Room) (s : State) (m : MethodId) (args : Array Value) (below : List Frame) (meth : Method) (c : Code), CX G dp cc own nL ret ini x0 z p l e R s m args below meth c →
    ∀ x : HP, F x = some (v, z) → x0.1 ≤ x.1 → ∀ (H : Heap) (locs : List Loc) (ls : Array Slot), LH G ls nL L → RP G x H → va_S (AA G) s.heap H locs →
      W p l e R s m args below meth c H locs (x.1 - x0.1) (sz x.1 - sz x0.1) (MQ below (QE G v z) args s (z.1 - x0.1) (sz z.1 - sz x0.1) (AA G)) (F0 m a ls (st.map (cV G)))
