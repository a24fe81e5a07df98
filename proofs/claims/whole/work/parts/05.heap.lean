/-! ===== what reads and writes the world ===== -/
def objF (x : HP) (c ci : Nat) : Option (List Value) := if c < x.1 then (match x.2 c with
  | .inr (ci', fs) => if ci' = ci then some fs else none
  | _ => none) else none
def arrI (x : HP) (c t : Nat) : Option (Nat × (Nat → Int32)) := if c < x.1 then (match x.2 c with
  | .inl (t', n, .inl f) => if t' = t then some (n, f) else none
  | _ => none) else none
def arrQ (x : HP) (c t : Nat) : Option (Nat × (Nat → Option Nat)) := if c < x.1 then (match x.2 c with
  | .inl (t', n, .inr (.inr (.inr (.inr f)))) => if t' = t then some (n, f) else none
  | _ => none) else none
theorem objF_of {x : HP} {c ci : Nat} {fs : List Value} (h : objF x c ci = some fs) : c < x.1 ∧ x.2 c = .inr (ci, fs) := by
  unfold objF at h
  split at h
  · rename_i hc
    refine ⟨hc, ?_⟩
    split at h
    · rename_i ci' fs' he
      split at h
      · rename_i hci
        rw [he, hci]
        cases h
        rfl
      · cases h
    · cases h
  · cases h
theorem arrI_of {x : HP} {c t n : Nat} {f : Nat → Int32} (h : arrI x c t = some (n, f)) : c < x.1 ∧ x.2 c = .inl (t, n, .inl f) := by
  unfold arrI at h
  split at h
  · rename_i hc
    refine ⟨hc, ?_⟩
    split at h
    · rename_i t' n' f' he
      split at h
      · rename_i ht
        rw [he, ht]
        cases h
        rfl
      · cases h
    · cases h
  · cases h
theorem arrQ_of {x : HP} {c t n : Nat} {f : Nat → Option Nat} (h : arrQ x c t = some (n, f)) : c < x.1 ∧ x.2 c = .inl (t, n, .inr (.inr (.inr (.inr f)))) := by
  unfold arrQ at h
  split at h
  · rename_i hc
    refine ⟨hc, ?_⟩
    split at h
    · rename_i t' n' f' he
      split at h
      · rename_i ht
        rw [he, ht]
        cases h
        rfl
      · cases h
    · cases h
  · cases h
theorem cA_lt {G : GG} {x : HP} {H : Heap} {c : Nat} (hP : RP G x H) (h : c < x.1) : cA G c = G.1 + c := by
  unfold cA
  rw [if_pos (Nat.lt_of_lt_of_le h hP.1)]
def CLS (ci : Nat) (C : String) (T : u_T) (N : Nat) (ty0 : Nat → FieldType) : Prop :=
  vwCl[ci]? = some (C, T, N) ∧ (∀ w ∈ u_ws C T N, w ∈ TB) ∧ (∀ k, k < N → parseFieldDescriptor (T k).2.2.1 = some (ty0 k)) ∧ ∀ a, a < N → ∀ b, b < N → a ≠ b → (T a).2.1 ≠ (T b).2.1
section ZROWS
variable {p : Program} {l : Launch} {e : Env} {R : Room} {s : State} {m : MethodId} {args : Array Value} {below : List Frame} {meth : Method} {c : Code} {H : Heap} {locs : List Loc} {cells slots : Nat} {Q : State → Prop}
variable {cc : ByteArray} {pc : Nat} {ls : Array Slot} {rest : List Value} {D : va_G} {cl : List vw_C} {A : Nat → Prop} {a : Nat} {tys : List (ClassId × FieldType)} {ws : va_W} {H0 : Heap}
/-- a store into a field, and the heap's size with it -/
theorem zz_put (hexec : p.tables.exec = Jvm.exec) (hb : c.code = cc) {own C : String} {T : u_T} {N ci index : Nat} {Ts : List Cond} (hts : ∀ w ∈ Ts, w.before args s = true) (hin : ∀ w ∈ u_ws C T N, w ∈ Ts) (ty0 : Nat → FieldType) (hty : ∀ k, k < N → parseFieldDescriptor (T k).2.2.1 = some (ty0 k)) (hnm : ∀ a, a < N → ∀ b, b < N → a ≠ b → (T a).2.1 ≠ (T b).2.1)
    (hown : s.vm.findClass own = some m.cls) (hK : va_K D cl tys s) (hP : va_P D cl ws H) (hD : va_D A ws) (hS0 : va_S A H0 H locs) (q0 : Nat) {fs : List Value} (he : ws[q0]? = some (a, .inr (ci, fs))) (hc : cl[ci]? = some (C, T, N)) (k : Nat) (hk : k < N) (hlink : (Cond.fieldLink own index (T k).1 (T k).2.1 (T k).2.2.1).before args s = true)
    (hfin : (T k).2.2.2 = false ∨ ((T k).2.2.2 = true ∧ meth.name = "<init>" ∧ (T k).1 = own)) {v : Value} (hn : narrow (ty0 k) v = v) (hfit : fits (ty0 k) v = true) (hl : k < fs.length) (hdg : decode cc pc = .ok (.putfield index, 3))
    (kk : ∀ (H1 : Heap) (locs1 : List Loc), va_P D cl (ws.set q0 (a, .inr (ci, fs.set k v))) H1 → va_S A H0 H1 locs1 → H1.size = H.size → W p l e R s m args below meth c H1 locs1 cells slots Q (F0 m (pc + 3) ls rest)) : W p l e R s m args below meth c H locs cells slots Q (F0 m pc ls (v :: .ref a :: rest)) := by
  have hap := va_apart (own := own) hts hin ty0 hty hnm hK hc
  obtain ⟨r, h1, cell, q1, q2, q3, q4⟩ := hP q0 _ he
  have hr : r = (C, T, N) := Option.some.inj (h1.symm.trans hc)
  subst hr
  obtain ⟨hS, hfc, kC, hkC, hkind⟩ := hK.1 ci _ hc
  obtain ⟨cf, kf, fi, f, hi, hsl⟩ := hS k hk
  have hlay := hts _ (hin _ (u_in_lay hk))
  have hst := (u_facts hfc hkC (u_lays hts hin hk) hi).1
  have done : ∀ H' : Heap, H'[a]? = some (cell.setSlot f.slot v) → H'.size = H.size → (∀ q, q ≠ a → H'[q]? = H[q]?) → W p l e R s m args below meth c H' (locs ++ [⟨a, f.slot⟩]) cells slots Q (F0 m (pc + 3) ls rest) := by
    intro H' e1 e2 e3
    rw [hsl] at e1 ⊢
    exact kk H' _ (hP.set hD he ⟨_, hc, t_OB.to (V := updV (vp_V fs) k v) ⟨_, e1, q2, q3, t_set q4 hap hk v⟩ (fun j _ => vp_updV_set hl v j)⟩ e3) (hS0.put e2 e3 (hD.2 q0 _ he)) e2
  rcases hfin with hfin | ⟨hfin, hin2, hdecl⟩
  · unfold u_lay at hlay
    rw [if_neg (by rw [hfin]; decide)] at hlay
    have h6 := u_store hfc hkC hkind hlay hi (hty k hk) hn hfit
    exact W.putK hexec hb (f := f) ⟨hown, hlink, ⟨_, _, _, hi⟩, hst⟩ (by rw [q2]; exact h6) q1 q3 (by rw [hsl]; exact k2_hasslot (q4 k hk)) rfl rfl hdg done
  · unfold u_lay at hlay
    rw [if_pos hfin] at hlay
    have hcf : m.cls = cf := by
      obtain ⟨_, _, c', _, _, _, -, -, hf', -, -, -, hown2, -⟩ := Cond.laysFinal_spec hlay
      have e1 : c' = cf := by have := hi.symm.trans hf'; simp at this; exact this.1.symm
      rw [hdecl] at hown2
      rw [← e1]; exact Option.some.inj (hown.symm.trans hown2)
    have h6 := u_fits hfc hkC hkind (Or.inr hlay) hi (hty k hk) hn hfit
    exact W.putFinK hexec hb hown hlink hi hst hcf hin2 (by rw [q2]; exact h6) q1 q3 (by rw [hsl]; exact k2_hasslot (q4 k hk)) rfl rfl hdg done
theorem zz_updI {f : Nat → Int32} {n k : Nat} {x : Int32} {cA : ClassId} : (arrV cA n (fun j => .int (f j))).setSlot k (.int x) = arrV cA n (fun j => .int (upd f k x j)) := by
  rw [arrV_store]
  congr 1
  funext q
  by_cases hq : q = k
  · subst hq
    simp [updV, upd]
  · simp [updV, upd, hq]
/-- a store into an int array or a boolean one -/
theorem zz_ast (hexec : p.tables.exec = Jvm.exec) (hb : c.code = cc) (hK : va_K D cl tys s) (hP : va_P D cl ws H) (hD : va_D A ws) (hS : va_S A H0 H locs) (q0 t0 : Nat) {cA : ClassId} {n : Nat} {f : Nat → Int32} {ty : FieldType} (ha : ws[q0]? = some (a, .inl (cA, n, .inl f))) (ht : tys[t0]? = some (cA, ty)) {i : Int32} {x : Int32} (hin : vp_in i n)
    (hdg : (ty = .int ∧ decode cc pc = .ok (.iastore, 1)) ∨ (ty = .boolean ∧ narrow .boolean (.int x) = .int x ∧ decode cc pc = .ok (.bastore, 1)))
    (kk : ∀ (H1 : Heap) (locs1 : List Loc), va_P D cl (ws.set q0 (a, .inl (cA, n, .inl (upd f i.toNatClampNeg x)))) H1 → va_S A H0 H1 locs1 → H1.size = H.size → W p l e R s m args below meth c H1 locs1 cells slots Q (F0 m (pc + 1) ls rest)) : W p l e R s m args below meth c H locs cells slots Q (F0 m pc ls (.int x :: .int i :: .ref a :: rest)) := by
  have hin2 : ¬ (i < 0 ∨ (arrV cA n (fun j => .int (f j))).slots.size ≤ i.toNatClampNeg) := by rw [arrV_size]; exact hin
  have done : ∀ H' : Heap, H'[a]? = some ((arrV cA n (fun j => .int (f j))).setSlot i.toNatClampNeg (.int x)) → H'.size = H.size → (∀ q, q ≠ a → H'[q]? = H[q]?) → W p l e R s m args below meth c H' (locs ++ [⟨a, i.toNatClampNeg⟩]) cells slots Q (F0 m (pc + 1) ls rest) := by
    intro H1 e1 e2 e3
    rw [zz_updI] at e1
    exact kk H1 _ (hP.set hD ha e1 e3) (hS.put e2 e3 (hD.2 q0 _ ha)) e2
  rcases hdg with ⟨rfl, hdg⟩ | ⟨rfl, hnw, hdg⟩
  · exact W.iast hexec hb (hP q0 _ ha) ((hK.2 t0 _ ht).1 n (fun j => .int (f j))) (fun q => by cases q) hin2 rfl rfl hdg done
  · exact W.zast hexec hb (hP q0 _ ha) ((hK.2 t0 _ ht).1 n (fun j => .int (f j))) (fun q => by cases q) hin2 rfl rfl hdg (by rw [hnw]; exact done)
/-- System.arraycopy between int arrays -/
theorem zz_copy (hexec : p.tables.exec = Jvm.exec) (hb : c.code = cc) (hml : c.maxLocals = ls.size) {own : String} {index : Nat} (hown : s.vm.findClass own = some m.cls) (hlink : (Cond.methodLink own index arraycopyName).before args s = true) (hnat : (Cond.native arraycopyName).before args s = true) (hstat : (Cond.static arraycopyName).before args s = true) (hini : (Cond.initialized "java/lang/System").before args s = true)
    (hK : va_K D cl tys s) (hP : va_P D cl ws H) (hD : va_D A ws) (hS : va_S A H0 H locs) (q0 q1 t0 : Nat) {a0 : Nat} {c0 : ClassId} {n0 n1 : Nat} {f g : Nat → Int32} (ha0 : ws[q0]? = some (a0, .inl (c0, n0, .inl f))) (ha1 : ws[q1]? = some (a, .inl (c0, n1, .inl g))) (ht0 : tys[t0]? = some (c0, .int))
    {sp dp n : Int32} (h1 : ¬ sp < 0) (h2 : ¬ dp < 0) (h3 : ¬ n < 0) (h4 : sp.toNatClampNeg + n.toNatClampNeg ≤ n0) (h5 : dp.toNatClampNeg + n.toNatClampNeg ≤ n1)
    (hframes : 1 ≤ R.frames) (hlocals : (rest.map fun v => v.category).sum + (nativeFrameWords "java/lang/System" "arraycopy" 5 + 11) ≤ R.locals) (hdg : decode cc pc = .ok (.invokestatic index, 3))
    (kk : ∀ (H1 : Heap) (locs1 : List Loc), va_P D cl (ws.set q1 (a, .inl (c0, n1, .inl (va_cpy f g sp.toNatClampNeg dp.toNatClampNeg n.toNatClampNeg)))) H1 → va_S A H0 H1 locs1 → H1.size = H.size → W p l e R s m args below meth c H1 locs1 cells slots Q (F0 m (pc + 3) ls rest)) : W p l e R s m args below meth c H locs cells slots Q (F0 m pc ls (.int n :: .int dp :: .ref a :: .int sp :: .ref a0 :: rest)) := by
  have nn : ∀ z : Int32, ¬ z < 0 → z.toInt = (z.toNatClampNeg : Int) := by
    intro z hz
    have hz0 : (0 : Int) ≤ z.toInt := by
      have := Int32.not_lt.mp hz
      simpa using Int32.le_iff_toInt_le.mp this
    show z.toInt = ((z.toInt.toNat : Nat) : Int)
    omega
  intro T hT X
  have hc0 : H[a0]? = some (vp_cell c0 (n0, .inl f)) := hP q0 _ ha0
  have hc1 : H[a]? = some (vp_cell c0 (n1, .inl g)) := hP q1 _ ha1
  obtain ⟨-, k0, hk0, cm0, hkk0⟩ := (hK.2 t0 _ ht0).1 n0 (fun j => .int (f j))
  obtain ⟨-, k1, hk1, cm1, hkk1⟩ := (hK.2 t0 _ ht0).1 n1 (fun j => .int (g j))
  obtain ⟨vm', X', step⟩ := X.arraycopy hexec hown hlink hnat hstat hini (src := a0) (dst := a) (cs := vp_cell c0 (n0, .inl f)) (cd := vp_cell c0 (n1, .inl g)) (srcPos := sp) (destPos := dp) (n := n) (by rw [hT]; exact hc0) (by rw [hT]; exact hc1)
    (fun _ h => by cases h) (fun _ h => by cases h) (fun h => by cases h) (fun h => by cases h) hk0 hk1 hkk0 hkk1 (by simp [refKind]) h1 h2 h3
    (by rw [nn sp h1, nn n h3]; show ¬ _ > ((arrV c0 n0 (fun j => .int (f j))).slots.size : Int); rw [arrV_size]; omega)
    (by rw [nn dp h2, nn n h3]; show ¬ _ > ((arrV c0 n1 (fun j => .int (g j))).slots.size : Int); rw [arrV_size]; omega)
    (fun vm₁ _ i hi => by
      have e : (vp_cell c0 (n0, .inl f)).slots.getD (sp.toNatClampNeg + i) .null = .int (f (sp.toNatClampNeg + i)) := by
        show (arrV c0 n0 (fun j => .int (f j))).slots.getD _ _ = _
        rw [Array.getD_eq_getD_getElem?, arrV_read _ _ (by omega)]
        rfl
      refine ⟨?_, ?_⟩
      · rw [e]
        rfl
      · rw [e]
        exact trivial)
    (g := F0 m pc ls (.int n :: .int dp :: .ref a :: .int sp :: .ref a0 :: rest)) rfl (by rw [hml]) (rest := rest) rfl (by rw [hb]; exact hdg) hframes (by show 2 * 0 + _ + _ ≤ _; omega)
  have e1 : copied (vp_cell c0 (n0, .inl f)) (vp_cell c0 (n1, .inl g)) sp dp n = vp_cell c0 (n1, .inl (va_cpy f g sp.toNatClampNeg dp.toNatClampNeg n.toNatClampNeg)) := va_copied (fun z => .int z) c0 c0 f g h4
  rw [e1] at X' step
  have hl : a < H.size := (Array.getElem?_eq_some_iff.mp hc1).1
  have hheap : ((T.setVm vm').setCell a (vp_cell c0 (n1, .inl (va_cpy f g sp.toNatClampNeg dp.toNatClampNeg n.toNatClampNeg)))).heap = H.setIfInBounds a (vp_cell c0 (n1, .inl (va_cpy f g sp.toNatClampNeg dp.toNatClampNeg n.toNatClampNeg))) := by rw [← hT]; rfl
  have oq : ∀ q : Nat, q ≠ a → (H.setIfInBounds a (vp_cell c0 (n1, .inl (va_cpy f g sp.toNatClampNeg dp.toNatClampNeg n.toNatClampNeg))))[q]? = H[q]? := fun q hq => by simp [Array.getElem?_setIfInBounds, Ne.symm hq]
  obtain ⟨t, a1, b1⟩ := kk _ _ (hP.set hD ha1 (show (H.setIfInBounds a _)[a]? = some _ by simp [Array.getElem?_setIfInBounds, hl]) oq) ⟨by simp; exact hS.1, fun q g1 g2 => by
      rw [oq q (fun e => g2 (by rw [e]; exact hD.2 q1 _ ha1))]
      exact hS.2.1 q g1 g2, fun q hq => by
      rcases List.mem_append.mp hq with h | h
      · exact hS.2.2 q h
      · obtain ⟨z, -, hz⟩ := List.mem_map.mp h
        rw [← hz]
        exact hD.2 q1 _ ha1⟩ (by simp) _ hheap X'
  exact ⟨t, step t a1, b1⟩
end ZROWS
/-- a field is read -/
def rF (c ci k : Nat) (F : Value → HP → RS) : HP → RS := fun x => match objF x c ci with
  | some fs => (match fs[k]? with
    | some v => F v x
    | none => none)
  | none => none
def rI (c ci k : Nat) (F : Int32 → HP → RS) : HP → RS := rF c ci k (fun v => match v with
  | .int y => F y
  | _ => fun _ => none)
def rR (c ci k : Nat) (F : Nat → HP → RS) : HP → RS := rF c ci k (fun v => match v with
  | .ref y => F y
  | _ => fun _ => none)
/-- a field is written -/
def wF (c ci k : Nat) (v : Value) (F : HP → RS) : HP → RS := fun x => match objF x c ci with
  | some fs => if k < fs.length then F (x.1, upH x.2 c (.inr (ci, fs.set k v))) else none
  | none => none
def bitT (v : Int32) (F : HP → RS) : HP → RS := fun x => if v = 0 ∨ v = 1 then F x else none
/-- an int array (t 0), a boolean one (t 1): an element is read, written -/
def aI (c t : Nat) (i : Int32) (F : Int32 → HP → RS) : HP → RS := fun x => match arrI x c t with
  | some (n, f) => if i < 0 ∨ n ≤ i.toNatClampNeg then none else F (f i.toNatClampNeg) x
  | none => none
def sI (c t : Nat) (i v : Int32) (F : HP → RS) : HP → RS := fun x => match arrI x c t with
  | some (n, f) => if i < 0 ∨ n ≤ i.toNatClampNeg then none else F (x.1, upH x.2 c (.inl (t, n, .inl (upd f i.toNatClampNeg v))))
  | none => none
/-- an array of references -/
def aR (c t : Nat) (i : Int32) (F : Nat → HP → RS) : HP → RS := fun x => match arrQ x c t with
  | some (n, f) => if i < 0 ∨ n ≤ i.toNatClampNeg then none else (match f i.toNatClampNeg with
    | some y => F y x
    | none => none)
  | none => none
def aLI (c t : Nat) (F : Int32 → HP → RS) : HP → RS := fun x => match arrI x c t with
  | some (n, _) => F (Int32.ofNat n) x
  | none => none
def aLQ (c t : Nat) (F : Int32 → HP → RS) : HP → RS := fun x => match arrQ x c t with
  | some (n, _) => F (Int32.ofNat n) x
  | none => none
def cpI (c0 : Nat) (sp : Int32) (c1 : Nat) (dp n : Int32) (F : HP → RS) : HP → RS := fun x => match arrI x c0 0, arrI x c1 0 with
  | some (n0, f), some (n1, g) => if sp < 0 ∨ dp < 0 ∨ n < 0 ∨ n0 < sp.toNatClampNeg + n.toNatClampNeg ∨ n1 < dp.toNatClampNeg + n.toNatClampNeg then none else F (x.1, upH x.2 c1 (.inl (0, n1, .inl (va_cpy f g sp.toNatClampNeg dp.toNatClampNeg n.toNatClampNeg))))
  | _, _ => none
section HRULES
variable {Γ : GG → Prop} {dp : Nat} {cc : ByteArray} {own : String} {nL : Nat} {ret : Option FieldType} {ini : Bool} {a b : Nat} {L : List (Option Value)} {st : List Value} {F F1 F2 : HP → RS}
theorem gt_rF {ci N k c index : Nat} {C : String} {T : u_T} {ty0 : Nat → FieldType} {F : Value → HP → RS} (hc : CLS ci C T N ty0) (hk : k < N) (hl : Cond.fieldLink own index (T k).1 (T k).2.1 (T k).2.2.1 ∈ TB) (hd : decode cc a = .ok (.getfield index, 3))
    (K : ∀ v, (∀ y w z, F v y = some (w, z) → y.1 ≤ z.1) ∧ ((∃ y w, F v y = some w) → GT Γ dp cc own nL ret ini (a + 3) L (v :: st) (F v))) : GT Γ dp cc own nL ret ini a L (.ref c :: st) (rF c ci k F) := by
  have key : ∀ {x : HP} {w : Option Value} {z : HP}, rF c ci k F x = some (w, z) → ∃ fs v, objF x c ci = some fs ∧ fs[k]? = some v ∧ F v x = some (w, z) := by
    intro x w z h
    unfold rF at h
    split at h
    · rename_i fs he
      split at h
      · rename_i v hv
        exact ⟨fs, v, he, hv, h⟩
      · cases h
    · cases h
  refine ⟨fun x w z h => ?_, fun G hΓ x0 z w p l e R s m args below meth c2 C x hx h0 H locs ls hL hP hS => ?_⟩
  · obtain ⟨fs, v, -, -, h3⟩ := key h
    exact (K v).1 x w z h3
  · obtain ⟨fs, v, h1, h2, h3⟩ := key hx
    obtain ⟨hlt, he⟩ := objF_of h1
    obtain ⟨q1, q2, q3, q4, q5, q6, q7, q8, q9, q10, q11⟩ := id C
    rw [List.map_cons, show cV G (.ref c) = .ref (G.1 + c) by rw [cV, cA_lt hP hlt]]
    refine va_get (D := G.2.2.1) (cl := vwCl) (tys := tyL G) (ws := wl G x) (fs := fs.map (cV G)) (v := cV G v) q1 q2 q5 hc.2.1 q4 q8.1 hP.2.2 c (by rw [wl_get hlt, he]; rfl) hc.1 k hk (q5 _ hl) (fun _ h => h) (by rw [List.getElem?_map, h2]; rfl) hd ?_
    exact ((K v).2 ⟨x, _, h3⟩).2 G hΓ x0 z w p l e R s m args below meth c2 C x h3 h0 H locs ls hL hP hS
theorem gt_rI {ci N k c index : Nat} {C : String} {T : u_T} {ty0 : Nat → FieldType} {F : Int32 → HP → RS} (hc : CLS ci C T N ty0) (hk : k < N) (hl : Cond.fieldLink own index (T k).1 (T k).2.1 (T k).2.2.1 ∈ TB) (hd : decode cc a = .ok (.getfield index, 3))
    (K : ∀ v, GT Γ dp cc own nL ret ini (a + 3) L (.int v :: st) (F v)) : GT Γ dp cc own nL ret ini a L (.ref c :: st) (rI c ci k F) := by
  refine gt_rF hc hk hl hd fun v => ?_
  cases v with
  | int y => exact ⟨(K y).1, fun _ => K y⟩
  | _ => exact ⟨(fun x w z h => nomatch h), (fun h => by obtain ⟨_, _, h⟩ := h; cases h)⟩
theorem gt_rR {ci N k c index : Nat} {C : String} {T : u_T} {ty0 : Nat → FieldType} {F : Nat → HP → RS} (hc : CLS ci C T N ty0) (hk : k < N) (hl : Cond.fieldLink own index (T k).1 (T k).2.1 (T k).2.2.1 ∈ TB) (hd : decode cc a = .ok (.getfield index, 3))
    (K : ∀ v, GT Γ dp cc own nL ret ini (a + 3) L (.ref v :: st) (F v)) : GT Γ dp cc own nL ret ini a L (.ref c :: st) (rR c ci k F) := by
  refine gt_rF hc hk hl hd fun v => ?_
  cases v with
  | ref y => exact ⟨(K y).1, fun _ => K y⟩
  | _ => exact ⟨(fun x w z h => nomatch h), (fun h => by obtain ⟨_, _, h⟩ := h; cases h)⟩
theorem wF_of {c ci k : Nat} {v : Value} {F : HP → RS} {x : HP} {w : Option Value × HP} (h : wF c ci k v F x = some w) : ∃ fs, objF x c ci = some fs ∧ k < fs.length ∧ F (x.1, upH x.2 c (.inr (ci, fs.set k v))) = some w := by
  unfold wF at h
  split at h
  · rename_i fs he
    split at h
    · rename_i hk
      exact ⟨fs, he, hk, h⟩
    · cases h
  · cases h
theorem RP.set {G : GG} {x : HP} {H H1 : Heap} {c : Nat} {e : va_E} (hP : RP G x H) (hc : c < x.1) (hz : H1.size = H.size) (h : va_P G.2.2.1 vwCl ((wl G x).set c (G.1 + c, cE G e)) H1) : RP G (x.1, upH x.2 c e) H1 := by
  refine ⟨hP.1, hz.trans hP.2.1, ?_⟩
  rw [← wl_set hc]
  exact h
theorem gt_wF {ci N k c index : Nat} {C : String} {T : u_T} {ty0 : Nat → FieldType} {v : Value} (hc : CLS ci C T N ty0) (hk : k < N) (hfin : (T k).2.2.2 = false ∨ ((T k).2.2.2 = true ∧ ini = true ∧ (T k).1 = own)) (hv : ∀ G : GG, narrow (ty0 k) (cV G v) = cV G v ∧ fits (ty0 k) (cV G v) = true) (hl : Cond.fieldLink own index (T k).1 (T k).2.1 (T k).2.2.1 ∈ TB) (hd : decode cc a = .ok (.putfield index, 3))
    (K : GT Γ dp cc own nL ret ini (a + 3) L st F) : GT Γ dp cc own nL ret ini a L (v :: .ref c :: st) (wF c ci k v F) := by
  refine ⟨fun x w z h => ?_, fun G hΓ x0 z w p l e R s m args below meth c2 C x hx h0 H locs ls hL hP hS => ?_⟩
  · obtain ⟨fs, -, -, h3⟩ := wF_of h
    have h4 := K.1 (x.1, upH x.2 c (.inr (ci, fs.set k v))) w z h3
    exact h4
  · obtain ⟨fs, h1, h2, h3⟩ := wF_of hx
    obtain ⟨hlt, he⟩ := objF_of h1
    obtain ⟨q1, q2, q3, q4, q5, q6, q7, q8, q9, q10, q11⟩ := id C
    rw [List.map_cons, List.map_cons, show cV G (.ref c) = .ref (G.1 + c) by rw [cV, cA_lt hP hlt]]
    have hget : (wl G x)[c]? = some (G.1 + c, .inr (ci, fs.map (cV G))) := by rw [wl_get hlt, he]; rfl
    have fin : ∀ (H1 : Heap) (locs1 : List Loc), va_P G.2.2.1 vwCl ((wl G x).set c (G.1 + c, .inr (ci, (fs.map (cV G)).set k (cV G v)))) H1 → va_S (AA G) s.heap H1 locs1 → H1.size = H.size →
        W p l e R s m args below meth c2 H1 locs1 (x.1 - x0.1) (sz x.1 - sz x0.1) (MQ below (QE G w z) args s (z.1 - x0.1) (sz z.1 - sz x0.1) (AA G)) (F0 m (a + 3) ls (st.map (cV G))) := by
      intro H1 locs1 p1 p2 p3
      refine K.2 G hΓ x0 z w p l e R s m args below meth c2 C (x.1, upH x.2 c (.inr (ci, fs.set k v))) h3 h0 H1 locs1 ls hL (RP.set hP hlt p3 ?_) p2
      show va_P _ _ ((wl G x).set c (G.1 + c, .inr (ci, (fs.set k v).map (cV G)))) H1
      rw [List.map_set]
      exact p1
    exact zz_put (D := G.2.2.1) (cl := vwCl) (tys := tyL G) (ws := wl G x) (A := AA G) (H0 := s.heap) (fs := fs.map (cV G)) (v := cV G v) q1 q2 q5 hc.2.1 ty0 hc.2.2.1 hc.2.2.2 q4 q8.1 hP.2.2 wl_D hS c hget hc.1 k hk (q5 _ hl) (hfin.elim Or.inl (fun h => Or.inr ⟨h.1, q11 h.2.1, h.2.2⟩)) (hv G).1 (hv G).2 (by rw [List.length_map]; exact h2) hd fin
theorem gt_wI {ci N k c index : Nat} {C : String} {T : u_T} {ty0 : Nat → FieldType} {v : Int32} (hc : CLS ci C T N ty0) (hk : k < N) (hfin : (T k).2.2.2 = false ∨ ((T k).2.2.2 = true ∧ ini = true ∧ (T k).1 = own)) (hv : ty0 k = .int) (hl : Cond.fieldLink own index (T k).1 (T k).2.1 (T k).2.2.1 ∈ TB) (hd : decode cc a = .ok (.putfield index, 3))
    (K : GT Γ dp cc own nL ret ini (a + 3) L st F) : GT Γ dp cc own nL ret ini a L (.int v :: .ref c :: st) (wF c ci k (.int v) F) := gt_wF hc hk hfin (fun G => by rw [hv]; exact ⟨rfl, rfl⟩) hl hd K
theorem gt_wR {ci N k c index v : Nat} {C : String} {T : u_T} {ty0 : Nat → FieldType} (hc : CLS ci C T N ty0) (hk : k < N) (hfin : (T k).2.2.2 = false ∨ ((T k).2.2.2 = true ∧ ini = true ∧ (T k).1 = own)) (hv : (∃ n, ty0 k = .object n) ∨ ∃ t, ty0 k = .array t) (hl : Cond.fieldLink own index (T k).1 (T k).2.1 (T k).2.2.1 ∈ TB) (hd : decode cc a = .ok (.putfield index, 3))
    (K : GT Γ dp cc own nL ret ini (a + 3) L st F) : GT Γ dp cc own nL ret ini a L (.ref v :: .ref c :: st) (wF c ci k (.ref v) F) := gt_wF hc hk hfin (fun G => by rcases hv with ⟨n, hv⟩ | ⟨t, hv⟩ <;> (rw [hv]; exact ⟨rfl, rfl⟩)) hl hd K
theorem gt_bit {v : Int32} (K : (v = 0 ∨ v = 1) → GT Γ dp cc own nL ret ini a L st F) : GT Γ dp cc own nL ret ini a L st (bitT v F) := by
  by_cases h : v = 0 ∨ v = 1
  · have e : bitT v F = F := by funext x; unfold bitT; rw [if_pos h]
    rw [e]; exact K h
  · refine ⟨fun x w z hx => ?_, fun G hΓ x0 z w p l e R s m args below meth c C x hx => ?_⟩ <;> (unfold bitT at hx; rw [if_neg h] at hx; cases hx)
theorem bit_nar {v : Int32} (h : v = 0 ∨ v = 1) : narrow .boolean (.int v) = .int v ∧ fits .boolean (.int v) = true := by
  rcases h with rfl | rfl <;> exact ⟨by decide, by decide⟩
theorem gt_wZ {ci N k c index : Nat} {C : String} {T : u_T} {ty0 : Nat → FieldType} {v : Int32} (hc : CLS ci C T N ty0) (hk : k < N) (hfin : (T k).2.2.2 = false ∨ ((T k).2.2.2 = true ∧ ini = true ∧ (T k).1 = own)) (hv : ty0 k = .boolean) (hl : Cond.fieldLink own index (T k).1 (T k).2.1 (T k).2.2.1 ∈ TB) (hd : decode cc a = .ok (.putfield index, 3))
    (K : GT Γ dp cc own nL ret ini (a + 3) L st F) : GT Γ dp cc own nL ret ini a L (.int v :: .ref c :: st) (bitT v (wF c ci k (.int v) F)) := gt_bit fun h => gt_wF hc hk hfin (fun G => by rw [hv]; exact bit_nar h) hl hd K
theorem aI_of {c t : Nat} {i : Int32} {F : Int32 → HP → RS} {x : HP} {w : Option Value × HP} (h : aI c t i F x = some w) : ∃ n f, arrI x c t = some (n, f) ∧ vp_in i n ∧ F (f i.toNatClampNeg) x = some w := by
  unfold aI at h
  split at h
  · rename_i n f he
    split at h
    · cases h
    · rename_i hi
      exact ⟨n, f, he, hi, h⟩
  · cases h
theorem sI_of {c t : Nat} {i v : Int32} {F : HP → RS} {x : HP} {w : Option Value × HP} (h : sI c t i v F x = some w) : ∃ n f, arrI x c t = some (n, f) ∧ vp_in i n ∧ F (x.1, upH x.2 c (.inl (t, n, .inl (upd f i.toNatClampNeg v)))) = some w := by
  unfold sI at h
  split at h
  · rename_i n f he
    split at h
    · cases h
    · rename_i hi
      exact ⟨n, f, he, hi, h⟩
  · cases h
theorem aR_of {c t : Nat} {i : Int32} {F : Nat → HP → RS} {x : HP} {w : Option Value × HP} (h : aR c t i F x = some w) : ∃ n f y, arrQ x c t = some (n, f) ∧ vp_in i n ∧ f i.toNatClampNeg = some y ∧ F y x = some w := by
  unfold aR at h
  split at h
  · rename_i n f he
    split at h
    · cases h
    · rename_i hi
      split at h
      · rename_i y hy
        exact ⟨n, f, y, he, hi, hy, h⟩
      · cases h
  · cases h
theorem gt_aIt {c t : Nat} {i : Int32} {F : Int32 → HP → RS} (hd : (t = 0 ∧ decode cc a = .ok (.iaload, 1)) ∨ (t = 1 ∧ decode cc a = .ok (.baload, 1))) (K : ∀ v, GT Γ dp cc own nL ret ini (a + 1) L (.int v :: st) (F v)) : GT Γ dp cc own nL ret ini a L (.int i :: .ref c :: st) (aI c t i F) := by
  refine ⟨fun x w z h => ?_, fun G hΓ x0 z w p l e R s m args below meth c2 C x hx h0 H locs ls hL hP hS => ?_⟩
  · obtain ⟨n, f, -, -, h3⟩ := aI_of h
    exact (K _).1 x w z h3
  · obtain ⟨n, f, h1, h2, h3⟩ := aI_of hx
    obtain ⟨hlt, he⟩ := arrI_of h1
    obtain ⟨q1, q2, q3, q4, q5, q6, q7, q8, q9, q10, q11⟩ := id C
    rw [List.map_cons, List.map_cons, show cV G (.ref c) = .ref (G.1 + c) by rw [cV, cA_lt hP hlt]]
    have hget : (wl G x)[c]? = some (G.1 + c, .inl (G.2.2.2 t, n, .inl f)) := by rw [wl_get hlt, he]; rfl
    have K2 := (K (f i.toNatClampNeg)).2 G hΓ x0 z w p l e R s m args below meth c2 C x h3 h0 H locs ls hL hP hS
    rcases hd with ⟨rfl, hd⟩ | ⟨rfl, hd⟩
    · exact va_iald (D := G.2.2.1) (cl := vwCl) (tys := tyL G) (ws := wl G x) q1 q2 q8.1 hP.2.2 c 0 hget rfl h2 hd K2
    · exact va_zald (D := G.2.2.1) (cl := vwCl) (tys := tyL G) (ws := wl G x) q1 q2 q8.1 hP.2.2 c 1 hget rfl h2 hd K2
theorem gt_aI {c : Nat} {i : Int32} {F : Int32 → HP → RS} (hd : decode cc a = .ok (.iaload, 1)) (K : ∀ v, GT Γ dp cc own nL ret ini (a + 1) L (.int v :: st) (F v)) : GT Γ dp cc own nL ret ini a L (.int i :: .ref c :: st) (aI c 0 i F) := gt_aIt (Or.inl ⟨rfl, hd⟩) K
theorem gt_aZ {c : Nat} {i : Int32} {F : Int32 → HP → RS} (hd : decode cc a = .ok (.baload, 1)) (K : ∀ v, GT Γ dp cc own nL ret ini (a + 1) L (.int v :: st) (F v)) : GT Γ dp cc own nL ret ini a L (.int i :: .ref c :: st) (aI c 1 i F) := gt_aIt (Or.inr ⟨rfl, hd⟩) K
theorem gt_sIt {c t : Nat} {i v : Int32} (hd : (t = 0 ∧ decode cc a = .ok (.iastore, 1)) ∨ (t = 1 ∧ narrow .boolean (.int v) = .int v ∧ decode cc a = .ok (.bastore, 1))) (K : GT Γ dp cc own nL ret ini (a + 1) L st F) : GT Γ dp cc own nL ret ini a L (.int v :: .int i :: .ref c :: st) (sI c t i v F) := by
  refine ⟨fun x w z h => ?_, fun G hΓ x0 z w p l e R s m args below meth c2 C x hx h0 H locs ls hL hP hS => ?_⟩
  · obtain ⟨n, f, -, -, h3⟩ := sI_of h
    have h4 := K.1 (x.1, upH x.2 c (.inl (t, n, .inl (upd f i.toNatClampNeg v)))) w z h3
    exact h4
  · obtain ⟨n, f, h1, h2, h3⟩ := sI_of hx
    obtain ⟨hlt, he⟩ := arrI_of h1
    obtain ⟨q1, q2, q3, q4, q5, q6, q7, q8, q9, q10, q11⟩ := id C
    rw [List.map_cons, List.map_cons, List.map_cons, show cV G (.ref c) = .ref (G.1 + c) by rw [cV, cA_lt hP hlt]]
    have hget : (wl G x)[c]? = some (G.1 + c, .inl (G.2.2.2 t, n, .inl f)) := by rw [wl_get hlt, he]; rfl
    have fin : ∀ (H1 : Heap) (locs1 : List Loc), va_P G.2.2.1 vwCl ((wl G x).set c (G.1 + c, .inl (G.2.2.2 t, n, .inl (upd f i.toNatClampNeg v)))) H1 → va_S (AA G) s.heap H1 locs1 → H1.size = H.size →
        W p l e R s m args below meth c2 H1 locs1 (x.1 - x0.1) (sz x.1 - sz x0.1) (MQ below (QE G w z) args s (z.1 - x0.1) (sz z.1 - sz x0.1) (AA G)) (F0 m (a + 1) ls (st.map (cV G))) := fun H1 locs1 p1 p2 p3 =>
      K.2 G hΓ x0 z w p l e R s m args below meth c2 C (x.1, upH x.2 c (.inl (t, n, .inl (upd f i.toNatClampNeg v)))) h3 h0 H1 locs1 ls hL (RP.set hP hlt p3 p1) p2
    rcases hd with ⟨rfl, hd⟩ | ⟨rfl, hn, hd⟩
    · exact zz_ast (D := G.2.2.1) (cl := vwCl) (tys := tyL G) (ws := wl G x) (A := AA G) (H0 := s.heap) q1 q2 q8.1 hP.2.2 wl_D hS c 0 hget rfl h2 (Or.inl ⟨rfl, hd⟩) fin
    · exact zz_ast (D := G.2.2.1) (cl := vwCl) (tys := tyL G) (ws := wl G x) (A := AA G) (H0 := s.heap) q1 q2 q8.1 hP.2.2 wl_D hS c 1 hget rfl h2 (Or.inr ⟨rfl, hn, hd⟩) fin
theorem gt_sI {c : Nat} {i v : Int32} (hd : decode cc a = .ok (.iastore, 1)) (K : GT Γ dp cc own nL ret ini (a + 1) L st F) : GT Γ dp cc own nL ret ini a L (.int v :: .int i :: .ref c :: st) (sI c 0 i v F) := gt_sIt (Or.inl ⟨rfl, hd⟩) K
theorem gt_sZ {c : Nat} {i v : Int32} (hd : decode cc a = .ok (.bastore, 1)) (K : GT Γ dp cc own nL ret ini (a + 1) L st F) : GT Γ dp cc own nL ret ini a L (.int v :: .int i :: .ref c :: st) (bitT v (sI c 1 i v F)) := gt_bit fun h => gt_sIt (Or.inr ⟨rfl, (bit_nar h).1, hd⟩) K
theorem gt_aR {c t : Nat} {i : Int32} {F : Nat → HP → RS} {ty : FieldType} (ht : ([.int, .boolean, .array .int, .object "LastInBox$Sheet", .object "LastInBox$Heap"] : List FieldType)[t]? = some ty) (hty : ty.isReference = true) (hd : decode cc a = .ok (.aaload, 1)) (K : ∀ v, GT Γ dp cc own nL ret ini (a + 1) L (.ref v :: st) (F v)) : GT Γ dp cc own nL ret ini a L (.int i :: .ref c :: st) (aR c t i F) := by
  refine ⟨fun x w z h => ?_, fun G hΓ x0 z w p l e R s m args below meth c2 C x hx h0 H locs ls hL hP hS => ?_⟩
  · obtain ⟨n, f, y, -, -, -, h3⟩ := aR_of h
    exact (K _).1 x w z h3
  · obtain ⟨n, f, y, h1, h2, hy, h3⟩ := aR_of hx
    obtain ⟨hlt, he⟩ := arrQ_of h1
    obtain ⟨q1, q2, q3, q4, q5, q6, q7, q8, q9, q10, q11⟩ := id C
    rw [List.map_cons, List.map_cons, show cV G (.ref c) = .ref (G.1 + c) by rw [cV, cA_lt hP hlt]]
    have hget : (wl G x)[c]? = some (G.1 + c, .inl (G.2.2.2 t, n, .inr (.inr (.inr (.inr (fun j => (f j).map (cA G))))))) := by rw [wl_get hlt, he]; rfl
    have ht2 : (tyL G)[t]? = some (G.2.2.2 t, ty) := by
      unfold tyL
      match t, ht with
      | 0, ht => cases ht; rfl
      | 1, ht => cases ht; rfl
      | 2, ht => cases ht; rfl
      | 3, ht => cases ht; rfl
      | 4, ht => cases ht; rfl
      | t + 5, ht => simp at ht
    have hlt2 : i.toNatClampNeg < n := Nat.not_le.mp fun q => h2 (Or.inr q)
    have hcell := hP.2.2 c _ hget
    refine W.aald (v := .ref (cA G y)) (ty := ty) q1 q2 hcell ((q8.1.2 t _ ht2).1 n (fun j => va_rf ((f j).map (cA G)))) hty (fun q => by cases q) (by show ¬ (i < 0 ∨ (arrV _ _ _).slots.size ≤ _); rw [arrV_size]; exact h2) ?_ rfl rfl hd ?_
    · show (arrV _ _ _).slots[_]? = _
      rw [arrV_read _ _ hlt2]
      show some (va_rf ((f i.toNatClampNeg).map (cA G))) = _
      rw [hy]
      rfl
    · exact (K y).2 G hΓ x0 z w p l e R s m args below meth c2 C x h3 h0 H locs ls hL hP hS
theorem gt_aLI {c t : Nat} {F : Int32 → HP → RS} (ht : t < 2) (hd : decode cc a = .ok (.arraylength, 1)) (K : ∀ v, GT Γ dp cc own nL ret ini (a + 1) L (.int v :: st) (F v)) : GT Γ dp cc own nL ret ini a L (.ref c :: st) (aLI c t F) := by
  have key : ∀ {x : HP} {w : Option Value × HP}, aLI c t F x = some w → ∃ n f, arrI x c t = some (n, f) ∧ F (Int32.ofNat n) x = some w := by
    intro x w h
    unfold aLI at h
    split at h
    · rename_i n f he
      exact ⟨n, f, he, h⟩
    · cases h
  refine ⟨fun x w z h => ?_, fun G hΓ x0 z w p l e R s m args below meth c2 C x hx h0 H locs ls hL hP hS => ?_⟩
  · obtain ⟨n, f, -, h3⟩ := key h
    exact (K _).1 x w z h3
  · obtain ⟨n, f, h1, h3⟩ := key hx
    obtain ⟨hlt, he⟩ := arrI_of h1
    obtain ⟨q1, q2, q3, q4, q5, q6, q7, q8, q9, q10, q11⟩ := id C
    rw [List.map_cons, show cV G (.ref c) = .ref (G.1 + c) by rw [cV, cA_lt hP hlt]]
    have hget : (wl G x)[c]? = some (G.1 + c, .inl (G.2.2.2 t, n, .inl f)) := by rw [wl_get hlt, he]; rfl
    have K2 := (K (Int32.ofNat n)).2 G hΓ x0 z w p l e R s m args below meth c2 C x h3 h0 H locs ls hL hP hS
    rcases (show t = 0 ∨ t = 1 by omega) with rfl | rfl
    · exact va_alen (D := G.2.2.1) (cl := vwCl) (tys := tyL G) (ws := wl G x) q1 q2 q8.1 hP.2.2 c 0 (x := (n, .inl f)) hget rfl rfl hd K2
    · exact va_alen (D := G.2.2.1) (cl := vwCl) (tys := tyL G) (ws := wl G x) q1 q2 q8.1 hP.2.2 c 1 (x := (n, .inl f)) hget rfl rfl hd K2
theorem gt_aLQ {c t : Nat} {F : Int32 → HP → RS} (ht : 2 ≤ t ∧ t < 5) (hd : decode cc a = .ok (.arraylength, 1)) (K : ∀ v, GT Γ dp cc own nL ret ini (a + 1) L (.int v :: st) (F v)) : GT Γ dp cc own nL ret ini a L (.ref c :: st) (aLQ c t F) := by
  have key : ∀ {x : HP} {w : Option Value × HP}, aLQ c t F x = some w → ∃ n f, arrQ x c t = some (n, f) ∧ F (Int32.ofNat n) x = some w := by
    intro x w h
    unfold aLQ at h
    split at h
    · rename_i n f he
      exact ⟨n, f, he, h⟩
    · cases h
  refine ⟨fun x w z h => ?_, fun G hΓ x0 z w p l e R s m args below meth c2 C x hx h0 H locs ls hL hP hS => ?_⟩
  · obtain ⟨n, f, -, h3⟩ := key h
    exact (K _).1 x w z h3
  · obtain ⟨n, f, h1, h3⟩ := key hx
    obtain ⟨hlt, he⟩ := arrQ_of h1
    obtain ⟨q1, q2, q3, q4, q5, q6, q7, q8, q9, q10, q11⟩ := id C
    rw [List.map_cons, show cV G (.ref c) = .ref (G.1 + c) by rw [cV, cA_lt hP hlt]]
    have hget : (wl G x)[c]? = some (G.1 + c, .inl (G.2.2.2 t, n, .inr (.inr (.inr (.inr (fun j => (f j).map (cA G))))))) := by rw [wl_get hlt, he]; rfl
    have K2 := (K (Int32.ofNat n)).2 G hΓ x0 z w p l e R s m args below meth c2 C x h3 h0 H locs ls hL hP hS
    rcases (show t = 2 ∨ t = 3 ∨ t = 4 by omega) with rfl | rfl | rfl
    · exact va_alen (D := G.2.2.1) (cl := vwCl) (tys := tyL G) (ws := wl G x) q1 q2 q8.1 hP.2.2 c 2 (x := (n, .inr (.inr (.inr (.inr (fun j => (f j).map (cA G))))))) hget rfl rfl hd K2
    · exact va_alen (D := G.2.2.1) (cl := vwCl) (tys := tyL G) (ws := wl G x) q1 q2 q8.1 hP.2.2 c 3 (x := (n, .inr (.inr (.inr (.inr (fun j => (f j).map (cA G))))))) hget rfl rfl hd K2
    · exact va_alen (D := G.2.2.1) (cl := vwCl) (tys := tyL G) (ws := wl G x) q1 q2 q8.1 hP.2.2 c 4 (x := (n, .inr (.inr (.inr (.inr (fun j => (f j).map (cA G))))))) hget rfl rfl hd K2
theorem gt_cpI {c0 c1 index : Nat} {sp dq n : Int32} (hdp : 2 ≤ dp) (w1 : Cond.methodLink own index arraycopyName ∈ TB) (w2 : Cond.native arraycopyName ∈ TB) (w3 : Cond.static arraycopyName ∈ TB) (w4 : Cond.initialized "java/lang/System" ∈ TB) (hcat : (st.map Value.category).sum ≤ 8) (hd : decode cc a = .ok (.invokestatic index, 3)) (K : GT Γ dp cc own nL ret ini (a + 3) L st F) :
    GT Γ dp cc own nL ret ini a L (.int n :: .int dq :: .ref c1 :: .int sp :: .ref c0 :: st) (cpI c0 sp c1 dq n F) := by
  have key : ∀ {x : HP} {w : Option Value × HP}, cpI c0 sp c1 dq n F x = some w → ∃ n0 f n1 g, arrI x c0 0 = some (n0, f) ∧ arrI x c1 0 = some (n1, g) ∧ ¬ (sp < 0 ∨ dq < 0 ∨ n < 0 ∨ n0 < sp.toNatClampNeg + n.toNatClampNeg ∨ n1 < dq.toNatClampNeg + n.toNatClampNeg) ∧ F (x.1, upH x.2 c1 (.inl (0, n1, .inl (va_cpy f g sp.toNatClampNeg dq.toNatClampNeg n.toNatClampNeg)))) = some w := by
    intro x w h
    unfold cpI at h
    split at h
    · rename_i n0 f n1 g he1 he2
      split at h
      · cases h
      · rename_i hi
        exact ⟨n0, f, n1, g, he1, he2, hi, h⟩
    · cases h
  refine ⟨fun x w z h => ?_, fun G hΓ x0 z w p l e R s m args below meth c2 C x hx h0 H locs ls hL hP hS => ?_⟩
  · obtain ⟨n0, f, n1, g, -, -, -, h3⟩ := key h
    have h4 := K.1 (x.1, upH x.2 c1 (.inl (0, n1, .inl (va_cpy f g sp.toNatClampNeg dq.toNatClampNeg n.toNatClampNeg)))) w z h3
    exact h4
  · obtain ⟨n0, f, n1, g, g1, g2, g3, h3⟩ := key hx
    obtain ⟨hlt0, he0⟩ := arrI_of g1
    obtain ⟨hlt1, he1⟩ := arrI_of g2
    obtain ⟨q1, q2, q3, q4, q5, q6, q7, q8, q9, q10, q11⟩ := id C
    rw [List.map_cons, List.map_cons, List.map_cons, List.map_cons, List.map_cons, show cV G (.ref c0) = .ref (G.1 + c0) by rw [cV, cA_lt hP hlt0], show cV G (.ref c1) = .ref (G.1 + c1) by rw [cV, cA_lt hP hlt1]]
    have hget0 : (wl G x)[c0]? = some (G.1 + c0, .inl (G.2.2.2 0, n0, .inl f)) := by rw [wl_get hlt0, he0]; rfl
    have hget1 : (wl G x)[c1]? = some (G.1 + c1, .inl (G.2.2.2 0, n1, .inl g)) := by rw [wl_get hlt1, he1]; rfl
    have e9 : ((st.map (cV G)).map fun v => v.category) = st.map Value.category := by rw [List.map_map]; exact List.map_congr_left (fun v _ => cV_cat v)
    refine zz_copy (D := G.2.2.1) (cl := vwCl) (tys := tyL G) (ws := wl G x) (A := AA G) (H0 := s.heap) q1 q2 (q3.trans hL.1.symm) q4 (q5 _ w1) (q5 _ w2) (q5 _ w3) (q5 _ w4) q8.1 hP.2.2 wl_D hS c0 c1 0 hget0 hget1 rfl (fun h => g3 (Or.inl h)) (fun h => g3 (Or.inr (Or.inl h))) (fun h => g3 (Or.inr (Or.inr (Or.inl h)))) (by omega) (by omega) (by rw [q10]; show 1 ≤ dp; omega) ?_ hd (fun H1 locs1 p1 p2 p3 => ?_)
    · rw [e9, q10]
      have : nativeFrameWords "java/lang/System" "arraycopy" 5 ≤ 60 := by decide +kernel
      show _ ≤ 64 * dp
      omega
    · exact K.2 G hΓ x0 z w p l e R s m args below meth c2 C (x.1, upH x.2 c1 (.inl (0, n1, .inl (va_cpy f g sp.toNatClampNeg dq.toNatClampNeg n.toNatClampNeg)))) h3 h0 H1 locs1 ls hL (RP.set hP hlt1 p3 p1) p2
end HRULES
