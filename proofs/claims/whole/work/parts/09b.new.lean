/-! ===== what makes cells; the script ===== -/
def nwO (ci N : Nat) (dfl : List Value) (F : Nat → HP → RS) : HP → RS := fun x => if szc x.1 = N ∧ x.1 < 1000 then F x.1 (x.1 + 1, upH x.2 x.1 (.inr (ci, dfl))) else none
def nwA (t N : Nat) (F : Nat → HP → RS) : HP → RS := fun x => if szc x.1 = N ∧ x.1 < 1000 then F x.1 (x.1 + 1, upH x.2 x.1 (.inl (t, N, .inl (fun _ => 0)))) else none
def nwQ (t N : Nat) (F : Nat → HP → RS) : HP → RS := fun x => if szc x.1 = N ∧ x.1 < 1000 then F x.1 (x.1 + 1, upH x.2 x.1 (.inl (t, N, .inr (.inr (.inr (.inr (fun _ => none))))))) else none
def sR (c t : Nat) (i : Int32) (v ci : Nat) (F : HP → RS) : HP → RS := fun x => match arrQ x c t, objF x v ci with
  | some (n, f), some _ => if i < 0 ∨ n ≤ i.toNatClampNeg then none else F (x.1, upH x.2 c (.inl (t, n, .inr (.inr (.inr (.inr (va_up f i.toNatClampNeg (some v))))))))
  | _, _ => none
/-- N rows of M ints each: the outer row is cell x.1, the inner ones those behind it -/
def rowsH (h : Nat → va_E) (n N M : Nat) : Nat → va_E := fun j => if j = n then .inl (2, N, .inr (.inr (.inr (.inr (fun i => if i < N then some (n + 1 + i) else none))))) else if n < j ∧ j < n + 1 + N then .inl (0, M, .inl (fun _ => 0)) else h j
def nwM (N M : Nat) (F : Nat → HP → RS) : HP → RS := fun x => if sz (x.1 + 1 + N) = sz x.1 + N + N * M ∧ x.1 + 1 + N ≤ 1000 then F x.1 (x.1 + 1 + N, rowsH x.2 x.1 N M) else none
section NEWR
variable {Γ : GG → Prop} {dp : Nat} {cc : ByteArray} {own : String} {nL : Nat} {ret : Option FieldType} {ini : Bool} {a b : Nat} {L : List (Option Value)} {st : List Value} {F F1 F2 : HP → RS}
/-- a world with one cell more -/
theorem RP.push {G : GG} {x : HP} {H H1 : Heap} {e : va_E} (hP : RP G x H) (hx : x.1 < 1000) (hz : H1.size = H.size + 1) (ho : ∀ q, q < H.size → H1[q]? = H[q]?) (he : va_at G.2.2.1 vwCl (H.size, cE G e) H1) : RP G (x.1 + 1, upH x.2 x.1 e) H1 := by
  refine ⟨hx, by rw [hz, hP.2.1]; rfl, ?_⟩
  show va_P G.2.2.1 vwCl (wl G (x.1 + 1, upH x.2 x.1 e)) H1
  rw [wl_push]
  refine (hP.2.2.kept (fun k q hk => ho q.1 ((hP.2.2 k q hk).lt))).app (fun k q hk => ?_)
  have hz : k < 1 := (List.getElem?_eq_some_iff.mp hk).1
  rw [show k = 0 by omega] at hk
  cases hk
  rw [← hP.2.1]
  exact he
theorem va_S.new {A : Nat → Prop} {H0 H H1 : Heap} {locs : List Loc} (hS : va_S A H0 H locs) (hz : H.size ≤ H1.size) (ho : ∀ q, q < H.size → H1[q]? = H[q]?) : va_S A H0 H1 locs :=
  ⟨Nat.le_trans hS.1 hz, fun q h1 h2 => (ho q (Nat.lt_of_lt_of_le h1 hS.1)).trans (hS.2.1 q h1 h2), hS.2.2⟩
theorem gt_new {ci N index : Nat} {C : String} {T : u_T} {ty0 : Nat → FieldType} {dfl : List Value} {F : Nat → HP → RS} (hc : CLS ci C T N ty0) (w1 : Cond.classLink own index C ∈ TB) (w2 : Cond.instantiable C N ∈ TB) (w3 : Cond.initialized C ∈ TB) (hdf : ∀ j, j < N → defaultValue (ty0 j) = vp_V dfl j) (hdv : ∀ G : GG, dfl.map (cV G) = dfl) (hd : decode cc a = .ok (.new index, 3))
    (K : ∀ c, GT Γ dp cc own nL ret ini (a + 3) L (.ref c :: st) (F c)) : GT Γ dp cc own nL ret ini a L st (nwO ci N dfl F) := by
  have key : ∀ {x : HP} {w : Option Value × HP}, nwO ci N dfl F x = some w → szc x.1 = N ∧ x.1 < 1000 ∧ F x.1 (x.1 + 1, upH x.2 x.1 (.inr (ci, dfl))) = some w := by
    intro x w h
    unfold nwO at h
    split at h
    · rename_i hh
      exact ⟨hh.1, hh.2, h⟩
    · cases h
  refine ⟨fun x w z h => ?_, fun G hΓ x0 z w p l e R s m args below meth c2 C x hx h0 H locs ls hL hP hS => ?_⟩
  · obtain ⟨h1, h2, h3⟩ := key h
    have h4 := (K x.1).1 (x.1 + 1, upH x.2 x.1 (.inr (ci, dfl))) w z h3
    exact Nat.le_trans (Nat.le_succ _) h4
  · obtain ⟨h1, h2, h3⟩ := key hx
    have m1 : x.1 + 1 ≤ z.1 := (K x.1).1 (x.1 + 1, upH x.2 x.1 (.inr (ci, dfl))) w z h3
    have z1 := sz_mono h0
    have z2 := sz_mono m1
    have z3 : sz (x.1 + 1) = sz x.1 + N := by rw [← h1]; rfl
    obtain ⟨q1, q2, q3, q4, q5, q6, q7, q8, q9, q10, q11⟩ := id C
    have hKn := q8.1.1 ci _ hc.1
    refine W.newcK (h := H.size) q1 q2 q4 (q5 _ w1) (q5 _ w2) (q5 _ w3) rfl hd (by rw [q10]; exact (show _ ≤ z.1 - x0.1 by omega)) (by rw [q10]; exact (show _ ≤ sz z.1 - sz x0.1 by omega)) hKn.2.1 rfl fun H1 kC hkC e1 y1 o1 => ?_
    have hat : va_at G.2.2.1 vwCl (H.size, cE G (.inr (ci, dfl))) H1 := by
      refine ⟨_, hc.1, ?_⟩
      show t_OB H.size _ _ _ H1 (vp_V (dfl.map (cV G)))
      rw [hdv G]
      exact (u_born ty0 q5 hc.2.1 hKn hkC e1 hc.2.2.1).to hdf
    have K2 := (K x.1).2 G hΓ x0 z w p l e R s m args below meth c2 C (x.1 + 1, upH x.2 x.1 (.inr (ci, dfl))) h3 (Nat.le_trans h0 (Nat.le_succ _)) H1 locs ls hL (hP.push h2 y1 o1 hat) (hS.new (by omega) o1)
    have e2 : x.1 - x0.1 + 1 = x.1 + 1 - x0.1 := by omega
    have e3 : sz x.1 - sz x0.1 + N = sz (x.1 + 1) - sz x0.1 := by omega
    rw [e2, e3]
    refine W.eq ?_ K2
    rw [List.map_cons, show cV G (.ref x.1) = .ref H.size by rw [cV, cA, if_pos h2, hP.2.1]]
theorem gt_newa {t N : Nat} {n : Int32} {atype : ArrayType} {F : Nat → HP → RS} (w1 : Cond.arrayClass (newarray.typeOf atype) ∈ TB) (ht : (t = 0 ∧ newarray.typeOf atype = .int) ∨ (t = 1 ∧ newarray.typeOf atype = .boolean)) (hn : ¬ n < 0) (hN : n.toNatClampNeg = N) (hN2 : N ≤ 1000) (hd : decode cc a = .ok (.newarray atype, 2))
    (K : ∀ c, GT Γ dp cc own nL ret ini (a + 2) L (.ref c :: st) (F c)) : GT Γ dp cc own nL ret ini a L (.int n :: st) (nwA t N F) := by
  have key : ∀ {x : HP} {w : Option Value × HP}, nwA t N F x = some w → szc x.1 = N ∧ x.1 < 1000 ∧ F x.1 (x.1 + 1, upH x.2 x.1 (.inl (t, N, .inl (fun _ => 0)))) = some w := by
    intro x w h
    unfold nwA at h
    split at h
    · rename_i hh
      exact ⟨hh.1, hh.2, h⟩
    · cases h
  refine ⟨fun x w z h => ?_, fun G hΓ x0 z w p l e R s m args below meth c2 C x hx h0 H locs ls hL hP hS => ?_⟩
  · obtain ⟨h1, h2, h3⟩ := key h
    have h4 := (K x.1).1 (x.1 + 1, upH x.2 x.1 (.inl (t, N, .inl (fun _ => 0)))) w z h3
    exact Nat.le_trans (Nat.le_succ _) h4
  · obtain ⟨h1, h2, h3⟩ := key hx
    have m1 : x.1 + 1 ≤ z.1 := (K x.1).1 (x.1 + 1, upH x.2 x.1 (.inl (t, N, .inl (fun _ => 0)))) w z h3
    have z1 := sz_mono h0
    have z2 := sz_mono m1
    have z3 : sz (x.1 + 1) = sz x.1 + N := by rw [← h1]; rfl
    obtain ⟨q1, q2, q3, q4, q5, q6, q7, q8, q9, q10, q11⟩ := id C
    have hcb : componentBytes (newarray.typeOf atype) ≤ 8 := by rcases ht with ⟨-, e⟩ | ⟨-, e⟩ <;> (rw [e]; decide)
    have hdf : defaultValue (newarray.typeOf atype) = .int 0 := by rcases ht with ⟨-, e⟩ | ⟨-, e⟩ <;> (rw [e]; rfl)
    rw [List.map_cons]
    refine va_newaK (h := H.size) (N := N) q1 q2 (q5 _ w1) rfl hd rfl hn hN (Nat.le_trans (Nat.mul_le_mul hN2 hcb) (by decide)) (by rw [q10]; exact (show _ ≤ z.1 - x0.1 by omega)) (by rw [q10]; exact (show _ ≤ sz z.1 - sz x0.1 by omega)) rfl fun H1 cA9 e1 y1 o1 hAr hNm => ?_
    have hcA : cA9 = G.2.2.2 t := by
      rcases ht with ⟨rfl, e⟩ | ⟨rfl, e⟩
      · have h9 : s.vm.findClass ("[" ++ FieldType.int.toString) = some (G.2.2.2 0) := (q8.1.2 0 _ rfl).2
        rw [e] at hNm
        exact Option.some.inj (hNm.symm.trans h9)
      · have h9 : s.vm.findClass ("[" ++ FieldType.boolean.toString) = some (G.2.2.2 1) := (q8.1.2 1 _ rfl).2
        rw [e] at hNm
        exact Option.some.inj (hNm.symm.trans h9)
    have hat : va_at G.2.2.1 vwCl (H.size, cE G (.inl (t, N, .inl (fun _ => 0)))) H1 := by
      show H1[H.size]? = some (arrV (G.2.2.2 t) N (fun _ => .int 0))
      rw [e1, hdf, hcA]
    have K2 := (K x.1).2 G hΓ x0 z w p l e R s m args below meth c2 C (x.1 + 1, upH x.2 x.1 (.inl (t, N, .inl (fun _ => 0)))) h3 (Nat.le_trans h0 (Nat.le_succ _)) H1 locs ls hL (hP.push h2 y1 o1 hat) (hS.new (by omega) o1)
    have e2 : x.1 - x0.1 + 1 = x.1 + 1 - x0.1 := by omega
    have e3 : sz x.1 - sz x0.1 + N = sz (x.1 + 1) - sz x0.1 := by omega
    rw [e2, e3]
    refine W.eq ?_ K2
    rw [List.map_cons, show cV G (.ref x.1) = .ref H.size by rw [cV, cA, if_pos h2, hP.2.1]]
theorem gt_newqC {t N index : Nat} {n : Int32} {C : String} {F : Nat → HP → RS} (w1 : Cond.classLink own index C ∈ TB) (hAO : ∀ (G : GG) (U : State), KX G U → va_AO C U) (ht : ∀ G : GG, (tyL G)[t]? = some (G.2.2.2 t, .object C)) (hn : ¬ n < 0) (hN : n.toNatClampNeg = N) (hN2 : N ≤ 1000) (hd : decode cc a = .ok (.anewarray index, 3))
    (K : ∀ c, GT Γ dp cc own nL ret ini (a + 3) L (.ref c :: st) (F c)) : GT Γ dp cc own nL ret ini a L (.int n :: st) (nwQ t N F) := by
  have key : ∀ {x : HP} {w : Option Value × HP}, nwQ t N F x = some w → szc x.1 = N ∧ x.1 < 1000 ∧ F x.1 (x.1 + 1, upH x.2 x.1 (.inl (t, N, .inr (.inr (.inr (.inr (fun _ => none))))))) = some w := by
    intro x w h
    unfold nwQ at h
    split at h
    · rename_i hh
      exact ⟨hh.1, hh.2, h⟩
    · cases h
  refine ⟨fun x w z h => ?_, fun G hΓ x0 z w p l e R s m args below meth c2 C2 x hx h0 H locs ls hL hP hS => ?_⟩
  · obtain ⟨h1, h2, h3⟩ := key h
    have h4 := (K x.1).1 (x.1 + 1, upH x.2 x.1 (.inl (t, N, .inr (.inr (.inr (.inr (fun _ => none))))))) w z h3
    exact Nat.le_trans (Nat.le_succ _) h4
  · obtain ⟨h1, h2, h3⟩ := key hx
    have m1 : x.1 + 1 ≤ z.1 := (K x.1).1 (x.1 + 1, upH x.2 x.1 (.inl (t, N, .inr (.inr (.inr (.inr (fun _ => none))))))) w z h3
    have z1 := sz_mono h0
    have z2 := sz_mono m1
    have z3 : sz (x.1 + 1) = sz x.1 + N := by rw [← h1]; rfl
    obtain ⟨q1, q2, q3, q4, q5, q6, q7, q8, q9, q10, q11⟩ := id C2
    rw [List.map_cons]
    refine W.anew q1 q2 q4 (q5 _ w1) (va_AO.use (hAO G s q8)) rfl hd rfl hn (by rw [hN]; exact Nat.le_trans (Nat.mul_le_mul hN2 (Nat.le_refl 4)) (by decide)) (by rw [q10]; exact (show _ ≤ z.1 - x0.1 by omega)) (by rw [q10, hN]; exact (show _ ≤ sz z.1 - sz x0.1 by omega)) fun cA9 kA comp f1 f2 f3 f4 => ?_
    have hcA : cA9 = G.2.2.2 t := by
      obtain ⟨-, kA2, comp2, g1, g2, g3, g4⟩ := q8.1.2 t _ (ht G)
      exact Option.some.inj (f1.symm.trans g4)
    generalize hH1 : H.push ({ cls := cA9, slots := Array.replicate n.toNatClampNeg .null, vm := .none } : Cell) = H1
    have y1 : H1.size = H.size + 1 := by rw [← hH1, Array.size_push]
    have e1 : H1[H.size]? = some (arrV cA9 N (fun _ => .null)) := by rw [← hH1, Array.getElem?_push_size, hN, ← arrV_new]
    have o1 : ∀ q : Nat, q < H.size → H1[q]? = H[q]? := fun q hq => by rw [← hH1, Array.getElem?_push, if_neg (Nat.ne_of_lt hq)]
    have hat : va_at G.2.2.1 vwCl (H.size, cE G (.inl (t, N, .inr (.inr (.inr (.inr (fun _ => none))))))) H1 := by
      show H1[H.size]? = some (arrV (G.2.2.2 t) N (fun _ => .null))
      rw [e1, hcA]
    have K2 := (K x.1).2 G hΓ x0 z w p l e R s m args below meth c2 C2 (x.1 + 1, upH x.2 x.1 (.inl (t, N, .inr (.inr (.inr (.inr (fun _ => none))))))) h3 (Nat.le_trans h0 (Nat.le_succ _)) H1 locs ls hL (hP.push h2 y1 o1 hat) (hS.new (by omega) o1)
    have e2 : x.1 - x0.1 + 1 = x.1 + 1 - x0.1 := by omega
    have e3 : sz x.1 - sz x0.1 + n.toNatClampNeg = sz (x.1 + 1) - sz x0.1 := by omega
    rw [e2, e3]
    refine W.eq ?_ K2
    rw [List.map_cons, show cV G (.ref x.1) = .ref H.size by rw [cV, cA, if_pos h2, hP.2.1]]
theorem gt_newq3 {N index : Nat} {n : Int32} {F : Nat → HP → RS} (w1 : Cond.classLink own index "LastInBox$Sheet" ∈ TB) (hn : ¬ n < 0) (hN : n.toNatClampNeg = N) (hN2 : N ≤ 1000) (hd : decode cc a = .ok (.anewarray index, 3))
    (K : ∀ c, GT Γ dp cc own nL ret ini (a + 3) L (.ref c :: st) (F c)) : GT Γ dp cc own nL ret ini a L (.int n :: st) (nwQ 3 N F) := gt_newqC w1 (fun G U h => h.2.2.2.2.2.2.1) (fun G => rfl) hn hN hN2 hd K
theorem gt_newq4 {N index : Nat} {n : Int32} {F : Nat → HP → RS} (w1 : Cond.classLink own index "LastInBox$Heap" ∈ TB) (hn : ¬ n < 0) (hN : n.toNatClampNeg = N) (hN2 : N ≤ 1000) (hd : decode cc a = .ok (.anewarray index, 3))
    (K : ∀ c, GT Γ dp cc own nL ret ini (a + 3) L (.ref c :: st) (F c)) : GT Γ dp cc own nL ret ini a L (.int n :: st) (nwQ 4 N F) := gt_newqC w1 (fun G U h => h.2.2.2.2.2.2.2.1) (fun G => rfl) hn hN hN2 hd K
theorem gt_sR {ci N c t v : Nat} {C : String} {T : u_T} {ty0 : Nat → FieldType} {i : Int32} (hc : CLS ci C T N ty0) (ht : ([.int, .boolean, .array .int, .object "LastInBox$Sheet", .object "LastInBox$Heap"] : List FieldType)[t]? = some (.object C)) (hd : decode cc a = .ok (.aastore, 1)) (K : GT Γ dp cc own nL ret ini (a + 1) L st F) : GT Γ dp cc own nL ret ini a L (.ref v :: .int i :: .ref c :: st) (sR c t i v ci F) := by
  have key : ∀ {x : HP} {w : Option Value × HP}, sR c t i v ci F x = some w → ∃ n f fs, arrQ x c t = some (n, f) ∧ objF x v ci = some fs ∧ vp_in i n ∧ F (x.1, upH x.2 c (.inl (t, n, .inr (.inr (.inr (.inr (va_up f i.toNatClampNeg (some v)))))))) = some w := by
    intro x w h
    unfold sR at h
    split at h
    · rename_i n f fs he1 he2
      split at h
      · cases h
      · rename_i hi
        exact ⟨n, f, fs, he1, he2, hi, h⟩
    · cases h
  refine ⟨fun x w z h => ?_, fun G hΓ x0 z w p l e R s m args below meth c2 C2 x hx h0 H locs ls hL hP hS => ?_⟩
  · obtain ⟨n, f, fs, -, -, -, h3⟩ := key h
    have h4 := K.1 (x.1, upH x.2 c (.inl (t, n, .inr (.inr (.inr (.inr (va_up f i.toNatClampNeg (some v)))))))) w z h3
    exact h4
  · obtain ⟨n, f, fs, g1, g2, g3, h3⟩ := key hx
    obtain ⟨hlt, he⟩ := arrQ_of g1
    obtain ⟨hltv, hev⟩ := objF_of g2
    obtain ⟨q1, q2, q3, q4, q5, q6, q7, q8, q9, q10, q11⟩ := id C2
    rw [List.map_cons, List.map_cons, List.map_cons, show cV G (.ref c) = .ref (G.1 + c) by rw [cV, cA_lt hP hlt], show cV G (.ref v) = .ref (G.1 + v) by rw [cV, cA_lt hP hltv]]
    have hget : (wl G x)[c]? = some (G.1 + c, .inl (G.2.2.2 t, n, .inr (.inr (.inr (.inr (fun j => (f j).map (cA G))))))) := by rw [wl_get hlt, he]; rfl
    have hgetv : (wl G x)[v]? = some (G.1 + v, .inr (ci, fs.map (cV G))) := by rw [wl_get hltv, hev]; rfl
    have ht2 : (tyL G)[t]? = some (G.2.2.2 t, .object C) := by
      unfold tyL
      match t, ht with
      | 0, ht => cases ht
      | 1, ht => cases ht
      | 2, ht => cases ht
      | 3, ht => cases ht; rfl
      | 4, ht => cases ht; rfl
      | t + 5, ht => simp at ht
    have hlt2 : i.toNatClampNeg < n := Nat.not_le.mp fun q => g3 (Or.inr q)
    have hlt0 : ¬ i < 0 := fun q => g3 (Or.inl q)
    obtain ⟨r', hr', cellV, v1, v2, v3, -⟩ := hP.2.2 v _ hgetv
    have hcls := (q8.1.1 ci _ hc.1).2
    obtain ⟨kA, comp, k1, k2, k3, -⟩ := (q8.1.2 t _ ht2).2
    have hr9 : r' = (C, T, N) := Option.some.inj (hr'.symm.trans hc.1)
    subst hr9
    have hcomp : comp = G.2.2.1.1 ci := Option.some.inj (k3.symm.trans hcls.1)
    subst hcomp
    obtain ⟨kC, hkC, -⟩ := hcls.2
    refine W.aast (rest := st.map (cV G)) q1 q2 (hP.2.2 c _ hget) (fun q h => by cases h) (fun h => by cases h) k1 k2 rfl hkC ⟨hlt0, by show _ < (arrV _ _ _).slots.size; rw [arrV_size]; exact hlt2⟩ v1 (fun q h => by rw [v3] at h; cases h) (by rw [v2]; exact hkC) (by rw [v2]; exact va_assign hcls) rfl rfl hd fun H1 e1 y1 oq => ?_
    refine K.2 G hΓ x0 z w p l e R s m args below meth c2 C2 (x.1, upH x.2 c (.inl (t, n, .inr (.inr (.inr (.inr (va_up f i.toNatClampNeg (some v)))))))) h3 h0 H1 _ ls hL (RP.set hP hlt y1 (hP.2.2.set wl_D hget ?_ oq)) (hS.put y1 oq (Nat.le_add_right _ _))
    show H1[G.1 + c]? = some (vp_cell _ _)
    rw [e1]
    show some ((arrV (G.2.2.2 t) n (fun j => va_rf ((f j).map (cA G)))).setSlot _ _) = some (arrV (G.2.2.2 t) n (fun j => va_rf ((va_up f i.toNatClampNeg (some v) j).map (cA G))))
    rw [arrV_store]
    congr 2
    funext q
    by_cases hq : q = i.toNatClampNeg
    · subst hq
      simp [updV, va_up, va_rf, cA_lt hP hltv]
    · simp [updV, va_up, hq]
theorem outer_is (G : GG) (c : ClassId) (N n h0 : Nat) (hh : h0 = G.1 + n) (hn : n + 1 + N ≤ 1000) : ∀ i : Nat, i ≤ N → Jvm.Free.Multi.outerC c N h0 i = arrV c N (fun j => va_rf ((if j < i then some (n + 1 + j) else none).map (cA G)))
  | 0, _ => by
    show ({ cls := c, slots := Array.replicate N .null, vm := .none } : Cell) = _
    rw [arrV_new]
    refine congrArg (arrV c N) (funext fun j => ?_)
    simp [va_rf]
  | i + 1, hi => by
    show (Jvm.Free.Multi.outerC c N h0 i).setSlot i (.ref (h0 + 1 + i)) = _
    rw [outer_is G c N n h0 hh hn i (by omega), arrV_store]
    refine congrArg (arrV c N) (funext fun j => ?_)
    by_cases e : j = i
    · subst e
      have e2 : cA G (n + 1 + j) = h0 + 1 + j := by
        unfold cA
        rw [if_pos (by omega)]
        omega
      simp [updV, va_rf, e2]
    · by_cases h : j < i
      · simp [updV, e, h, Nat.lt_succ_of_lt h]
      · simp [updV, e, h, show ¬ j < i + 1 by omega]
theorem gt_newm {N M index : Nat} {n k : Int32} {F : Nat → HP → RS} (w1 : Cond.classLink own index "[[I" ∈ TB) (w2 : Cond.arrayClass .int ∈ TB) (hn : ¬ n < 0) (hN : n.toNatClampNeg = N) (hk : ¬ k < 0) (hM : k.toNatClampNeg = M) (hb : N ≤ 1000 ∧ M ≤ 1000) (hd : decode cc a = .ok (.multianewarray index 2, 4))
    (K : ∀ c, GT Γ dp cc own nL ret ini (a + 4) L (.ref c :: st) (F c)) : GT Γ dp cc own nL ret ini a L (.int k :: .int n :: st) (nwM N M F) := by
  have key : ∀ {x : HP} {w : Option Value × HP}, nwM N M F x = some w → sz (x.1 + 1 + N) = sz x.1 + N + N * M ∧ x.1 + 1 + N ≤ 1000 ∧ F x.1 (x.1 + 1 + N, rowsH x.2 x.1 N M) = some w := by
    intro x w h
    unfold nwM at h
    split at h
    · rename_i hh
      exact ⟨hh.1, hh.2, h⟩
    · cases h
  refine ⟨fun x w z h => ?_, fun G hΓ x0 z w p l e R s m args below meth c2 C2 x hx h0 H locs ls hL hP hS => ?_⟩
  · obtain ⟨h1, h2, h3⟩ := key h
    have h4 : x.1 + 1 + N ≤ z.1 := (K x.1).1 (x.1 + 1 + N, rowsH x.2 x.1 N M) w z h3
    omega
  · obtain ⟨h1, h2, h3⟩ := key hx
    have m1 : x.1 + 1 + N ≤ z.1 := (K x.1).1 (x.1 + 1 + N, rowsH x.2 x.1 N M) w z h3
    have z1 := sz_mono h0
    have z2 := sz_mono m1
    obtain ⟨q1, q2, q3, q4, q5, q6, q7, q8, q9, q10, q11⟩ := id C2
    rw [List.map_cons, List.map_cons]
    intro Ts hT Xs
    obtain ⟨vm₁, cA9, comp, -, fA, fC, hO, -, X', step⟩ := Xs.multianewarray2F (ty := .int) q1 q4 (q5 _ w1) (zz_AOA.use q8.2.2.2.2.2.2.2.2) (q5 _ w2) (g := F0 m a ls (.int k :: .int n :: st.map (cV G))) rfl (by rw [q2]; exact hd) rfl hn hk
      (by rw [hN]; exact Nat.le_trans (Nat.mul_le_mul hb.1 (Nat.le_refl 4)) (by decide)) (by rw [hM]; exact Nat.le_trans (Nat.mul_le_mul hb.2 (show componentBytes .int ≤ 8 by decide)) (by decide)) (by rw [hM]; exact Nat.le_trans hb.2 (by decide)) rfl rfl (by rw [q10, hN]; exact (show _ ≤ z.1 - x0.1 by omega)) (by rw [q10, hN, hM]; exact (show _ ≤ sz z.1 - sz x0.1 by omega))
    rw [hN, hM] at X' step
    have ec1 : cA9 = G.2.2.2 2 := by
      have h9 : s.vm.findClass ("[" ++ (FieldType.array .int).toString) = some (G.2.2.2 2) := (q8.1.2 2 _ rfl).2
      exact Option.some.inj (fA.symm.trans h9)
    have ec2 : comp = G.2.2.2 0 := by
      have h9 : s.vm.findClass ("[" ++ FieldType.int.toString) = some (G.2.2.2 0) := (q8.1.2 0 _ rfl).2
      have h8 : s.vm.findClass (FieldType.array .int).toString = some comp := fC
      exact Option.some.inj (h8.symm.trans h9)
    subst ec1
    subst ec2
    have hTh : (Ts.setVm vm₁).heap = H := hT
    have f0 := Jvm.Free.Multi.fill_facts (Ts.setVm vm₁) (G.2.2.2 2) (G.2.2.2 0) N M (defaultValue .int) N
    have f1 : (Jvm.Free.Multi.fill (Ts.setVm vm₁) (G.2.2.2 2) (G.2.2.2 0) N M (defaultValue .int) N).heap.size = H.size + 1 + N := by rw [f0.1, hTh]
    have f2 : (Jvm.Free.Multi.fill (Ts.setVm vm₁) (G.2.2.2 2) (G.2.2.2 0) N M (defaultValue .int) N).heap[H.size]? = some (Jvm.Free.Multi.outerC (G.2.2.2 2) N H.size N) := by
      have := f0.2.1
      rw [hTh] at this
      exact this
    have f3 : ∀ q, q < H.size → (Jvm.Free.Multi.fill (Ts.setVm vm₁) (G.2.2.2 2) (G.2.2.2 0) N M (defaultValue .int) N).heap[q]? = H[q]? := by
      intro q hq
      have := Jvm.Free.Multi.fill_old (Ts.setVm vm₁) (G.2.2.2 2) (G.2.2.2 0) N M (defaultValue .int) (a := q) (by rw [hTh]; exact hq) N
      rw [hTh] at this
      exact this
    have f4 : ∀ j, j < N → (Jvm.Free.Multi.fill (Ts.setVm vm₁) (G.2.2.2 2) (G.2.2.2 0) N M (defaultValue .int) N).heap[H.size + 1 + j]? = some (Jvm.Free.Multi.innerC (G.2.2.2 0) M (defaultValue .int)) := by
      intro j hj
      have := Jvm.Free.Multi.fill_inner (Ts.setVm vm₁) (G.2.2.2 2) (G.2.2.2 0) N M (defaultValue .int) N j hj
      rw [hTh] at this
      exact this
    generalize (Jvm.Free.Multi.fill (Ts.setVm vm₁) (G.2.2.2 2) (G.2.2.2 0) N M (defaultValue .int) N) = Fm at X' step f1 f2 f3 f4
    have hin : Jvm.Free.Multi.innerC (G.2.2.2 0) M (defaultValue .int) = arrV (G.2.2.2 0) M (fun _ => .int 0) := by
      show ({ cls := G.2.2.2 0, slots := Array.replicate M (.int 0), vm := .none } : Cell) = _
      rw [arrV_new]
    have hRP : RP G (x.1 + 1 + N, rowsH x.2 x.1 N M) Fm.heap := by
      refine ⟨h2, by rw [f1, hP.2.1]; show G.1 + x.1 + 1 + N = G.1 + (x.1 + 1 + N); omega, fun k9 q hq => ?_⟩
      have hk9 : k9 < x.1 + 1 + N := by
        have := (List.getElem?_eq_some_iff.mp hq).1
        rw [wl_len] at this
        exact this
      rw [wl_get (x := (x.1 + 1 + N, rowsH x.2 x.1 N M)) hk9] at hq
      cases hq
      have hsz := hP.2.1
      by_cases c1 : k9 = x.1
      · subst c1
        show va_at _ _ (G.1 + x.1, cE G (rowsH x.2 x.1 N M x.1)) _
        rw [show rowsH x.2 x.1 N M x.1 = .inl (2, N, .inr (.inr (.inr (.inr (fun i => if i < N then some (x.1 + 1 + i) else none))))) by unfold rowsH; rw [if_pos rfl]]
        show Fm.heap[G.1 + x.1]? = some (arrV (G.2.2.2 2) N (fun j => va_rf ((if j < N then some (x.1 + 1 + j) else none).map (cA G))))
        rw [← hsz, f2, outer_is G _ N x.1 H.size hsz h2 N (Nat.le_refl _)]
      · by_cases c3 : x.1 < k9
        · show va_at _ _ (G.1 + k9, cE G (rowsH x.2 x.1 N M k9)) _
          rw [show rowsH x.2 x.1 N M k9 = .inl (0, M, .inl (fun _ => 0)) by unfold rowsH; rw [if_neg c1, if_pos ⟨c3, hk9⟩]]
          show Fm.heap[G.1 + k9]? = some (arrV (G.2.2.2 0) M (fun _ => .int 0))
          rw [show G.1 + k9 = H.size + 1 + (k9 - x.1 - 1) by omega, f4 _ (by omega), hin]
        · show va_at _ _ (G.1 + k9, cE G (rowsH x.2 x.1 N M k9)) _
          rw [show rowsH x.2 x.1 N M k9 = x.2 k9 by unfold rowsH; rw [if_neg c1, if_neg (fun h => c3 h.1)]]
          exact (hP.2.2 k9 _ (wl_get (show k9 < x.1 by omega))).kept (f3 _ (show G.1 + k9 < H.size by omega))
    have K2 := (K x.1).2 G hΓ x0 z w p l e R s m args below meth c2 C2 (x.1 + 1 + N, rowsH x.2 x.1 N M) h3 (by show x0.1 ≤ x.1 + 1 + N; omega) Fm.heap locs ls hL hRP (hS.new (by omega) f3)
    have e2 : x.1 - x0.1 + 1 + N = x.1 + 1 + N - x0.1 := by omega
    have e3 : sz x.1 - sz x0.1 + N + N * M = sz (x.1 + 1 + N) - sz x0.1 := by omega
    rw [e2, e3] at X'
    obtain ⟨t9, a1, b1⟩ := K2 Fm rfl X'
    refine ⟨t9, step t9 ?_, b1⟩
    rw [List.map_cons, show cV G (.ref x.1) = .ref Ts.heap.size by rw [cV, cA, if_pos (show x.1 < 1000 by omega), hT, hP.2.1]] at a1
    exact a1
/-! the script -/
def GS (n : Nat) (xs : Nat → Int32) (G : GG) : Prop := G.2.1 9 = n ∧ ∀ j, nI (G.2.1 (10 + j)) = xs j
def scT (n : Nat) (xs : Nat → Int32) (i : Int32) (F : Int32 → HP → RS) : HP → RS := fun x => if i < 0 ∨ n ≤ i.toNatClampNeg then none else F (xs i.toNatClampNeg) x
theorem gt_scT {n : Nat} {xs : Nat → Int32} {i : Int32} {F : Int32 → HP → RS} (hΓ : ∀ G, Γ G → GS n xs G) (hd : decode cc a = .ok (.iaload, 1)) (K : ∀ v, GT Γ dp cc own nL ret ini (a + 1) L (.int v :: st) (F v)) : GT Γ dp cc own nL ret ini a L (.int i :: .ref 1008 :: st) (scT n xs i F) := by
  refine ⟨fun x w z h => ?_, fun G hG x0 z w p l e R s m args below meth c2 C x hx h0 H locs ls hL hP hS => ?_⟩
  · unfold scT at h
    split at h
    · cases h
    · exact (K _).1 x w z h
  · unfold scT at hx
    split at hx
    · cases hx
    · rename_i hi
      obtain ⟨g1, g2⟩ := hΓ G hG
      have hX := C.2.2.2.2.2.2.2.1.2.1.2.2.2.2.2.2
      have hlt : G.2.1 8 < s.heap.size := by
        obtain ⟨scr, h1, -⟩ := hX.1
        exact (Array.getElem?_eq_some_iff.mp h1).1
      rw [List.map_cons, List.map_cons, show cV G (.ref 1008) = .ref (G.2.1 8) from rfl]
      refine va_sld (H0 := s.heap) (A := AA G) C.1 C.2.1 hX.1 hlt (Nat.not_le.mpr hX.2) hS (by rw [g1]; exact hi) hd ?_
      rw [g2]
      exact (K _).2 G hG x0 z w p l e R s m args below meth c2 C x hx h0 H locs ls hL hP hS
def slT (n : Nat) (F : Int32 → HP → RS) : HP → RS := F (Int32.ofNat n)
theorem gt_slT {n : Nat} {xs : Nat → Int32} {F : Int32 → HP → RS} (hΓ : ∀ G, Γ G → GS n xs G) (hd : decode cc a = .ok (.arraylength, 1)) (K : ∀ v, GT Γ dp cc own nL ret ini (a + 1) L (.int v :: st) (F v)) : GT Γ dp cc own nL ret ini a L (.ref 1008 :: st) (slT n F) := by
  refine ⟨(K _).1, fun G hG x0 z w p l e R s m args below meth c2 C x hx h0 H locs ls hL hP hS => ?_⟩
  obtain ⟨g1, g2⟩ := hΓ G hG
  have hX := C.2.2.2.2.2.2.2.1.2.1.2.2.2.2.2.2
  have hlt : G.2.1 8 < s.heap.size := by
    obtain ⟨scr, h1, -⟩ := hX.1
    exact (Array.getElem?_eq_some_iff.mp h1).1
  rw [List.map_cons, show cV G (.ref 1008) = .ref (G.2.1 8) from rfl]
  refine va_slen (H0 := s.heap) (A := AA G) C.1 C.2.1 hX.1 hlt (Nat.not_le.mpr hX.2) hS hd ?_
  rw [g1]
  exact (K _).2 G hG x0 z w p l e R s m args below meth c2 C x hx h0 H locs ls hL hP hS
end NEWR
