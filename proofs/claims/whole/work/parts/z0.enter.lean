/-! THE CLAIM OUT OF ONE WALK OF THE LAW'S BODY. Your part is whole_start (and what it stands on); all else here is the same for every law, but numbers. -/
def R_law : String := "LastInBoxLaw"
def lw_P (b : Addr) (xs : List Int32) (args : Array Value) (s : State) : Prop := args = #[.ref b] ∧ s.IntsAt b xs ∧ xs.length ≤ 3072 ∧ (Jvm.Cond.and given_1 narrow_1).before args s = true
def lw_Q (_ : Array Value) (s : State) (o : Outcome) (t : State) : Prop := o = .returned (some (.int 1)) ∧ Framed s o t [] 600000 7302250
def lw_Z (below : List Frame) (a : Array Value) (s : State) : State → Prop := fun t => ∃ o, t.status = .running ∧ Ended t below o ∧ lw_Q a s o t
/-- the law's own end, with 1 on the stack, nothing written that was there before, its room as the claim has it -/
theorem lw_ret {p : Program} {l : Launch} {e : Env} {s : State} {m : MethodId} {below : List Frame} {meth : Method} {c : Code} {b : Nat} (hx : p.tables.exec = Jvm.exec) (hb : c.code = code) (hr : meth.sig.returnType = ret) (hlocks : meth.locks = false) {pc : Nat} {H : Heap} {ls : Array Slot} (hdg : decode code pc = .ok (.ireturn, 1)) : W p l e room_1 s m #[Value.ref b] below meth c H [] 600000 7302250 (lw_Z below #[Value.ref b] s) (F0 m pc ls [.int 1]) := by
  intro T hT X
  obtain ⟨fs, hret, hrun, hended, hW, hframe⟩ := X.leave (v := some (.int 1)) (hlocks := hlocks) (fun h => by rw [hr] at h; cases h)
  have hmeth' : T.vm.method? m = some meth := X.method'
  refine ⟨T.setFrames fs, ?_, .returned (some (.int 1)), hrun, hended, rfl, ⟨_, rfl⟩, hW, hframe⟩
  jvm_step X.here [X.here.top, hx, hb, hdg, hmeth', hr, ret, narrow_b1]
  (try refine ⟨rfl, ?_⟩); (try refine ⟨rfl, ?_⟩)
  first | (intro acts; rw [hret _ acts rfl rfl rfl]) | rw [hret _ _ rfl rfl rfl]
  exact Steps.refl _
/-- what holds at the law's entry: the machine, the code, the tables' words (any of lw_tbl by 'hts w (by decide +kernel)'), the script of L ints xs at the cell b, what the Statement gives of the start (any of its parts by flat_of_before) -/
def lw_At (p : Program) (s : State) (m : MethodId) (meth : Method) (c : Code) (b L : Nat) (xs : Nat → Int32) : Prop :=
  p.tables.exec = Jvm.exec ∧ c.code = code ∧ meth.sig.returnType = ret ∧ c.maxLocals = 4 ∧ s.vm.findClass R_law = some m.cls ∧ (∀ w ∈ lw_tbl, w.before #[Value.ref b] s = true) ∧ va_X b L xs s s.heap ∧ b < s.heap.size ∧ meth.locks = false ∧ (Jvm.Cond.and given_1 narrow_1).before #[Value.ref b] s = true
/-- a smaller room will do -/
theorem W.room {p : Program} {l : Launch} {e : Env} {R R' : Room} {s : State} {m : MethodId} {args : Array Value} {below : List Frame} {meth : Method} {c : Code} {H : Heap} {locs : List Loc} {cells slots : Nat} {Q : State → Prop} {g : JFrame}
    (h1 : R'.frames ≤ R.frames) (h2 : R'.cells ≤ R.cells) (h3 : R'.slots ≤ R.slots) (h4 : R'.locals ≤ R.locals) (k : W p l e R' s m args below meth c H locs cells slots Q g) : W p l e R s m args below meth c H locs cells slots Q g := by
  intro T hT X
  refine k T hT { X with room := ?_ }
  have h := X.room
  simp only [State.hasRoom, Bool.and_eq_true, decide_eq_true_eq] at h ⊢
  obtain ⟨⟨⟨⟨a1, a2, a3, a4, a5, a6⟩, a7⟩, a8⟩, a9⟩ := h
  exact ⟨⟨⟨⟨by omega, by omega, by omega, by omega, by omega, a6⟩, by omega⟩, by omega⟩, a9⟩
theorem W.post {p : Program} {l : Launch} {e : Env} {R : Room} {s : State} {m : MethodId} {args : Array Value} {below : List Frame} {meth : Method} {c : Code} {H : Heap} {locs : List Loc} {cells slots : Nat} {Q Q' : State → Prop} {g : JFrame}
    (h : ∀ t, Q t → Q' t) (k : W p l e R s m args below meth c H locs cells slots Q g) : W p l e R s m args below meth c H locs cells slots Q' g := by
  intro T hT X
  obtain ⟨t, a, b⟩ := k T hT X
  exact ⟨t, a, h t b⟩
theorem nI_bits (x : Int32) : nI x.toBitVec.toNat = x := by
  apply Int32.toBitVec_inj.mp
  unfold nI
  simp

theorem en_AB {args : Array Value} {s : State} (hg : ∀ c ∈ flatC (Jvm.Cond.and given_1 narrow_1), c.before args s = true) : ∃ t : Nat, (Term.static "LastInBox$Kinds" "ABOVE" "[I").eval args s none [] s = some (.ref t) ∧ va_T .int t 7 (fun j => .int (kAb j)) (fun q => s.heap.size ≤ q) s s.heap := by
  refine va_Tof (by decide) (hg (.arrayOf (.static "LastInBox$Kinds" "ABOVE" "[I") .int) (by decide +kernel)) (va_eqt (hg (.eq (.length (.static "LastInBox$Kinds" "ABOVE" "[I")) (.int 7)) (by decide +kernel))) (fun j hj => ?_) (fun a h => Nat.not_le.mpr h)
  match j, hj with
  | 0, _ => exact va_eqt (hg (.eq (.elem (.static "LastInBox$Kinds" "ABOVE" "[I") (.int 0)) (.int (-1))) (by decide +kernel))
  | 1, _ => exact va_eqt (hg (.eq (.elem (.static "LastInBox$Kinds" "ABOVE" "[I") (.int 1)) (.int (0))) (by decide +kernel))
  | 2, _ => exact va_eqt (hg (.eq (.elem (.static "LastInBox$Kinds" "ABOVE" "[I") (.int 2)) (.int (0))) (by decide +kernel))
  | 3, _ => exact va_eqt (hg (.eq (.elem (.static "LastInBox$Kinds" "ABOVE" "[I") (.int 3)) (.int (0))) (by decide +kernel))
  | 4, _ => exact va_eqt (hg (.eq (.elem (.static "LastInBox$Kinds" "ABOVE" "[I") (.int 4)) (.int (1))) (by decide +kernel))
  | 5, _ => exact va_eqt (hg (.eq (.elem (.static "LastInBox$Kinds" "ABOVE" "[I") (.int 5)) (.int (2))) (by decide +kernel))
  | 6, _ => exact va_eqt (hg (.eq (.elem (.static "LastInBox$Kinds" "ABOVE" "[I") (.int 6)) (.int (1))) (by decide +kernel))
  | j + 7, h => omega
theorem en_BO {args : Array Value} {s : State} (hg : ∀ c ∈ flatC (Jvm.Cond.and given_1 narrow_1), c.before args s = true) : ∃ t : Nat, (Term.static "LastInBox$Kinds" "BODIES" "[I").eval args s none [] s = some (.ref t) ∧ va_T .int t 28 (fun j => .int (kBo j)) (fun q => s.heap.size ≤ q) s s.heap := by
  refine va_Tof (by decide) (hg (.arrayOf (.static "LastInBox$Kinds" "BODIES" "[I") .int) (by decide +kernel)) (va_eqt (hg (.eq (.length (.static "LastInBox$Kinds" "BODIES" "[I")) (.int 28)) (by decide +kernel))) (fun j hj => ?_) (fun a h => Nat.not_le.mpr h)
  match j, hj with
  | 0, _ => exact va_eqt (hg (.eq (.elem (.static "LastInBox$Kinds" "BODIES" "[I") (.int 0)) (.int (10))) (by decide +kernel))
  | 1, _ => exact va_eqt (hg (.eq (.elem (.static "LastInBox$Kinds" "BODIES" "[I") (.int 1)) (.int (11))) (by decide +kernel))
  | 2, _ => exact va_eqt (hg (.eq (.elem (.static "LastInBox$Kinds" "BODIES" "[I") (.int 2)) (.int (12))) (by decide +kernel))
  | 3, _ => exact va_eqt (hg (.eq (.elem (.static "LastInBox$Kinds" "BODIES" "[I") (.int 3)) (.int (13))) (by decide +kernel))
  | 4, _ => exact va_eqt (hg (.eq (.elem (.static "LastInBox$Kinds" "BODIES" "[I") (.int 4)) (.int (20))) (by decide +kernel))
  | 5, _ => exact va_eqt (hg (.eq (.elem (.static "LastInBox$Kinds" "BODIES" "[I") (.int 5)) (.int (0))) (by decide +kernel))
  | 6, _ => exact va_eqt (hg (.eq (.elem (.static "LastInBox$Kinds" "BODIES" "[I") (.int 6)) (.int (0))) (by decide +kernel))
  | 7, _ => exact va_eqt (hg (.eq (.elem (.static "LastInBox$Kinds" "BODIES" "[I") (.int 7)) (.int (21))) (by decide +kernel))
  | 8, _ => exact va_eqt (hg (.eq (.elem (.static "LastInBox$Kinds" "BODIES" "[I") (.int 8)) (.int (0))) (by decide +kernel))
  | 9, _ => exact va_eqt (hg (.eq (.elem (.static "LastInBox$Kinds" "BODIES" "[I") (.int 9)) (.int (30))) (by decide +kernel))
  | 10, _ => exact va_eqt (hg (.eq (.elem (.static "LastInBox$Kinds" "BODIES" "[I") (.int 10)) (.int (0))) (by decide +kernel))
  | 11, _ => exact va_eqt (hg (.eq (.elem (.static "LastInBox$Kinds" "BODIES" "[I") (.int 11)) (.int (0))) (by decide +kernel))
  | 12, _ => exact va_eqt (hg (.eq (.elem (.static "LastInBox$Kinds" "BODIES" "[I") (.int 12)) (.int (0))) (by decide +kernel))
  | 13, _ => exact va_eqt (hg (.eq (.elem (.static "LastInBox$Kinds" "BODIES" "[I") (.int 13)) (.int (0))) (by decide +kernel))
  | 14, _ => exact va_eqt (hg (.eq (.elem (.static "LastInBox$Kinds" "BODIES" "[I") (.int 14)) (.int (40))) (by decide +kernel))
  | 15, _ => exact va_eqt (hg (.eq (.elem (.static "LastInBox$Kinds" "BODIES" "[I") (.int 15)) (.int (0))) (by decide +kernel))
  | 16, _ => exact va_eqt (hg (.eq (.elem (.static "LastInBox$Kinds" "BODIES" "[I") (.int 16)) (.int (50))) (by decide +kernel))
  | 17, _ => exact va_eqt (hg (.eq (.elem (.static "LastInBox$Kinds" "BODIES" "[I") (.int 17)) (.int (0))) (by decide +kernel))
  | 18, _ => exact va_eqt (hg (.eq (.elem (.static "LastInBox$Kinds" "BODIES" "[I") (.int 18)) (.int (51))) (by decide +kernel))
  | 19, _ => exact va_eqt (hg (.eq (.elem (.static "LastInBox$Kinds" "BODIES" "[I") (.int 19)) (.int (0))) (by decide +kernel))
  | 20, _ => exact va_eqt (hg (.eq (.elem (.static "LastInBox$Kinds" "BODIES" "[I") (.int 20)) (.int (0))) (by decide +kernel))
  | 21, _ => exact va_eqt (hg (.eq (.elem (.static "LastInBox$Kinds" "BODIES" "[I") (.int 21)) (.int (60))) (by decide +kernel))
  | 22, _ => exact va_eqt (hg (.eq (.elem (.static "LastInBox$Kinds" "BODIES" "[I") (.int 22)) (.int (0))) (by decide +kernel))
  | 23, _ => exact va_eqt (hg (.eq (.elem (.static "LastInBox$Kinds" "BODIES" "[I") (.int 23)) (.int (0))) (by decide +kernel))
  | 24, _ => exact va_eqt (hg (.eq (.elem (.static "LastInBox$Kinds" "BODIES" "[I") (.int 24)) (.int (70))) (by decide +kernel))
  | 25, _ => exact va_eqt (hg (.eq (.elem (.static "LastInBox$Kinds" "BODIES" "[I") (.int 25)) (.int (71))) (by decide +kernel))
  | 26, _ => exact va_eqt (hg (.eq (.elem (.static "LastInBox$Kinds" "BODIES" "[I") (.int 26)) (.int (0))) (by decide +kernel))
  | 27, _ => exact va_eqt (hg (.eq (.elem (.static "LastInBox$Kinds" "BODIES" "[I") (.int 27)) (.int (0))) (by decide +kernel))
  | j + 28, h => omega
def tmS (i : Nat) : Term := ([.string "LastInBox$Reader" 16, .string "LastInBox" 147, .string "LastInBox" 149] : List Term).getD i (.string "LastInBox" 149)
theorem en_ST {args : Array Value} {s : State} (hg : ∀ c ∈ flatC (Jvm.Cond.and given_1 narrow_1), c.before args s = true) : ∃ adK adV : Nat → Nat, vk_S 3 kLen kByt adK adV (fun q => s.heap.size ≤ q) s s.heap ∧ ∀ i : Nat, i < 3 → (tmS i).eval args s none [] s = some (.ref (adK i)) := by
  refine vk_Sof (tm := tmS) (len := kLen) (byt := kByt) ?_ ?_ ?_ ?_ ?_ ?_ ?_ (fun a h => Nat.not_le.mpr h)
  · intro i hi
    match i, hi with
    | 0, _ => decide
    | 1, _ => decide
    | 2, _ => decide
    | i + 3, h => omega
  · intro i hi
    match i, hi with
    | 0, _ => exact hg (.exactly (.string "LastInBox$Reader" 16) "java/lang/String") (by decide +kernel)
    | 1, _ => exact hg (.exactly (.string "LastInBox" 147) "java/lang/String") (by decide +kernel)
    | 2, _ => exact hg (.exactly (.string "LastInBox" 149) "java/lang/String") (by decide +kernel)
    | i + 3, h => omega
  · intro i hi
    match i, hi with
    | 0, _ => exact hg (.eq (.field (.string "LastInBox$Reader" 16) "java/lang/String" "coder" "B") (.int 0)) (by decide +kernel)
    | 1, _ => exact hg (.eq (.field (.string "LastInBox" 147) "java/lang/String" "coder" "B") (.int 0)) (by decide +kernel)
    | 2, _ => exact hg (.eq (.field (.string "LastInBox" 149) "java/lang/String" "coder" "B") (.int 0)) (by decide +kernel)
    | i + 3, h => omega
  · intro i hi
    match i, hi with
    | 0, _ => exact hg (.arrayOf (.field (.string "LastInBox$Reader" 16) "java/lang/String" "value" "[B") .byte) (by decide +kernel)
    | 1, _ => exact hg (.arrayOf (.field (.string "LastInBox" 147) "java/lang/String" "value" "[B") .byte) (by decide +kernel)
    | 2, _ => exact hg (.arrayOf (.field (.string "LastInBox" 149) "java/lang/String" "value" "[B") .byte) (by decide +kernel)
    | i + 3, h => omega
  · intro i hi
    match i, hi with
    | 0, _ => exact hg (.eq (.length (.field (.string "LastInBox$Reader" 16) "java/lang/String" "value" "[B")) (.int 0)) (by decide +kernel)
    | 1, _ => exact hg (.eq (.length (.field (.string "LastInBox" 147) "java/lang/String" "value" "[B")) (.int 4)) (by decide +kernel)
    | 2, _ => exact hg (.eq (.length (.field (.string "LastInBox" 149) "java/lang/String" "value" "[B")) (.int 3)) (by decide +kernel)
    | i + 3, h => omega
  · intro i hi j hj
    match i, hi, j, hj with
    | 0, _, j + 0, h => exact absurd h (by simp [kLen])
    | 1, _, 0, _ => exact hg (.eq (.elem (.field (.string "LastInBox" 147) "java/lang/String" "value" "[B") (.int 0)) (.int 119)) (by decide +kernel)
    | 1, _, 1, _ => exact hg (.eq (.elem (.field (.string "LastInBox" 147) "java/lang/String" "value" "[B") (.int 1)) (.int 108)) (by decide +kernel)
    | 1, _, 2, _ => exact hg (.eq (.elem (.field (.string "LastInBox" 147) "java/lang/String" "value" "[B") (.int 2)) (.int 107)) (by decide +kernel)
    | 1, _, 3, _ => exact hg (.eq (.elem (.field (.string "LastInBox" 147) "java/lang/String" "value" "[B") (.int 3)) (.int 109)) (by decide +kernel)
    | 1, _, j + 4, h => exact absurd h (by simp [kLen])
    | 2, _, 0, _ => exact hg (.eq (.elem (.field (.string "LastInBox" 149) "java/lang/String" "value" "[B") (.int 0)) (.int 115)) (by decide +kernel)
    | 2, _, 1, _ => exact hg (.eq (.elem (.field (.string "LastInBox" 149) "java/lang/String" "value" "[B") (.int 1)) (.int 119)) (by decide +kernel)
    | 2, _, 2, _ => exact hg (.eq (.elem (.field (.string "LastInBox" 149) "java/lang/String" "value" "[B") (.int 2)) (.int 116)) (by decide +kernel)
    | 2, _, j + 3, h => exact absurd h (by simp [kLen])
    | i + 3, h, _, _ => omega
  · intro i j hi hj hne
    match i, hi, j, hj with
    | 0, _, 0, _ => exact absurd rfl hne
    | 0, _, 1, _ => exact Or.inl (hg (.not (.eq (.string "LastInBox$Reader" 16) (.string "LastInBox" 147))) (by decide +kernel))
    | 0, _, 2, _ => exact Or.inl (hg (.not (.eq (.string "LastInBox$Reader" 16) (.string "LastInBox" 149))) (by decide +kernel))
    | 1, _, 0, _ => exact Or.inr (hg (.not (.eq (.string "LastInBox$Reader" 16) (.string "LastInBox" 147))) (by decide +kernel))
    | 1, _, 1, _ => exact absurd rfl hne
    | 1, _, 2, _ => exact Or.inl (hg (.not (.eq (.string "LastInBox" 147) (.string "LastInBox" 149))) (by decide +kernel))
    | 2, _, 0, _ => exact Or.inr (hg (.not (.eq (.string "LastInBox$Reader" 16) (.string "LastInBox" 149))) (by decide +kernel))
    | 2, _, 1, _ => exact Or.inr (hg (.not (.eq (.string "LastInBox" 147) (.string "LastInBox" 149))) (by decide +kernel))
    | 2, _, 2, _ => exact absurd rfl hne
    | i + 3, h, _, _ => omega
    | _, _, j + 3, h => omega
theorem en_arr {args : Array Value} {s : State} {ty : FieldType} (h : (Cond.arrayClass ty).before args s = true) (hn : ∀ C, ty ≠ .object C) : ∃ cA : ClassId, ArrOfT s cA ty ∧ va_RA s cA ty := by
  obtain ⟨c, k, comp, h1, h2, h3⟩ := Cond.arrayClass_spec h
  refine ⟨c, fun N z => ⟨fun q hq => (by cases hq), k, h2, comp, h3⟩, ?_⟩
  cases ty with
  | object C => exact absurd rfl (hn C)
  | _ => exact h1
theorem en_arrO {args : Array Value} {s : State} {C : String} (h : (Cond.arrayOver (.object C)).before args s = true) : ∃ cA : ClassId, ArrOfT s cA (.object C) ∧ va_RA s cA (.object C) := by
  obtain ⟨comp, c, k, h1, h2, h3, h4, h5⟩ := Cond.arrayOver_spec h
  exact ⟨c, (fun N z => ⟨fun q hq => (by cases hq), k, h3, comp, h4⟩), k, comp, h3, h4, h1, h5⟩
theorem en_arrA {s : State} (h : zz_AOA s) : ∃ cA : ClassId, ArrOfT s cA (.array .int) ∧ va_RA s cA (.array .int) := by
  obtain ⟨comp, c, k, h1, h2, h3, h4, h5⟩ := h
  exact ⟨c, (fun N z => ⟨fun q hq => (by cases hq), k, h3, comp, h4⟩), h5⟩

theorem en_K {args : Array Value} {s : State} (hts : ∀ w ∈ lw_tbl, w.before args s = true) : ∃ (D : va_G) (dA : Nat → ClassId), ∀ (B : Nat) (X : Nat → Nat), va_K D vwCl (tyL (B, X, D, dA)) s := by
  have htb : ∀ w ∈ TB, w.before args s = true := fun w h => hts w (List.mem_filter.mp h).1
  obtain ⟨c0, s0, k0⟩ := u_known (C := RX0) (T := TX0) (N := 7) (n := 7) htb inT_X0 (htb _ wo_X0)
  obtain ⟨c1, s1, k1⟩ := u_known (C := RX1) (T := TX1) (N := 14) (n := 14) htb inT_X1 (htb _ wo_X1)
  obtain ⟨c2, s2, k2⟩ := u_known (C := RX2) (T := TX2) (N := 16) (n := 16) htb inT_X2 (htb _ wo_X2)
  obtain ⟨c3, s3, k3⟩ := u_known (C := RX3) (T := TX3) (N := 3) (n := 3) htb inT_X3 (htb _ wo_X3)
  obtain ⟨c4, s4, k4⟩ := u_known (C := RX5) (T := TX5) (N := 4) (n := 4) htb inT_X5 (htb _ wo_X5)
  obtain ⟨c5, s5, k5⟩ := u_known (C := RX6) (T := TX6) (N := 3) (n := 3) htb inT_X6 (htb _ wo_X6)
  obtain ⟨c6, s6, k6⟩ := u_known (C := RX7) (T := TX7) (N := 3) (n := 3) htb inT_X7 (htb _ wo_X7)
  obtain ⟨c7, s7, k7⟩ := u_known (C := RX8) (T := TX8) (N := 5) (n := 5) htb inT_X8 (htb _ wo_X8)
  obtain ⟨c8, s8, k8⟩ := u_known (C := RX9) (T := TX9) (N := 9) (n := 9) htb inT_X9 (htb _ wo_X9)
  obtain ⟨c9, s9, k9⟩ := u_known (C := RX10) (T := TX10) (N := 34) (n := 34) htb inT_X10 (htb _ wo_X10)
  have hAO : zz_AOA s := zz_AOA.of (hts (.arrayOver (.array .int)) (by decide +kernel))
  obtain ⟨a0, p0, r0⟩ := en_arr (s := s) (ty := .int) (hts (.arrayClass .int) (by decide +kernel)) (fun C h => nomatch h)
  obtain ⟨a1, p1, r1⟩ := en_arr (s := s) (ty := .boolean) (hts (.arrayClass .boolean) (by decide +kernel)) (fun C h => nomatch h)
  obtain ⟨a2, p2, r2⟩ := en_arrA hAO
  obtain ⟨a3, p3, r3⟩ := en_arrO (hts (.arrayOver (.object "LastInBox$Sheet")) (by decide +kernel))
  obtain ⟨a4, p4, r4⟩ := en_arrO (hts (.arrayOver (.object "LastInBox$Heap")) (by decide +kernel))
  refine ⟨(fun k => ([c0, c1, c2, c3, c4, c5, c6, c7, c8, c9] : List ClassId).getD k 0, fun k => ([s0, s1, s2, s3, s4, s5, s6, s7, s8, s9] : List (Nat → Nat)).getD k (fun _ => 0)), fun k => ([a0, a1, a2, a3, a4] : List ClassId).getD k 0, fun B X => ⟨fun k q hq => ?_, fun k q hq => ?_⟩⟩
  · match k, hq with
    | 0, hq => cases hq; exact k0
    | 1, hq => cases hq; exact k1
    | 2, hq => cases hq; exact k2
    | 3, hq => cases hq; exact k3
    | 4, hq => cases hq; exact k4
    | 5, hq => cases hq; exact k5
    | 6, hq => cases hq; exact k6
    | 7, hq => cases hq; exact k7
    | 8, hq => cases hq; exact k8
    | 9, hq => cases hq; exact k9
    | k + 10, hq => simp [vwCl] at hq
  · match k, hq with
    | 0, hq => cases hq; exact ⟨p0, r0⟩
    | 1, hq => cases hq; exact ⟨p1, r1⟩
    | 2, hq => cases hq; exact ⟨p2, r2⟩
    | 3, hq => cases hq; exact ⟨p3, r3⟩
    | 4, hq => cases hq; exact ⟨p4, r4⟩
    | k + 5, hq => simp [tyL] at hq
theorem en_KX {b L : Nat} {xs : Nat → Int32} {s : State} (hts : ∀ w ∈ lw_tbl, w.before #[Value.ref b] s = true) (hX : va_X b L xs s s.heap) (hbl : b < s.heap.size) (hgv : (Jvm.Cond.and given_1 narrow_1).before #[Value.ref b] s = true) : ∃ G : GG, G.1 = s.heap.size ∧ GS L xs G ∧ G.2.1 8 = b ∧ KX G s := by
  have hg := flat_of_before _ hgv
  obtain ⟨D, dA, hK⟩ := en_K hts
  obtain ⟨tA, eA, vA⟩ := en_AB hg
  obtain ⟨tB, eB, vB⟩ := en_BO hg
  obtain ⟨adK, adV, vS, eS⟩ := en_ST hg
  refine ⟨(s.heap.size, (fun i => if i = 0 then tA else if i = 1 then tB else if i < 5 then adK (i - 2) else if i < 8 then adV (i - 5) else if i = 8 then b else if i = 9 then L else (xs (i - 10)).toBitVec.toNat), D, dA), rfl, ⟨rfl, fun j => ?_⟩, rfl, hK _ _, ⟨?_, ?_, ?_, ?_, ?_, ?_, ?_, ?_⟩, ?_, ?_, ?_, ?_, ?_, ?_, ?_⟩
  · show nI (if 10 + j = 0 then tA else if 10 + j = 1 then tB else if 10 + j < 5 then adK (10 + j - 2) else if 10 + j < 8 then adV (10 + j - 5) else if 10 + j = 8 then b else if 10 + j = 9 then L else (xs (10 + j - 10)).toBitVec.toNat) = xs j
    rw [if_neg (by omega), if_neg (by omega), if_neg (by omega), if_neg (by omega), if_neg (by omega), if_neg (by omega), Nat.add_sub_cancel_left]
    exact nI_bits _
  · exact va_Zof (hts (.laysStatic "LastInBox$Kinds" "ABOVE" "[I") (by decide +kernel)) (hts (.initialized "LastInBox$Kinds") (by decide +kernel)) eA (fun a h => Nat.not_le.mpr h)
  · exact vA
  · exact va_Zof (hts (.laysStatic "LastInBox$Kinds" "BODIES" "[I") (by decide +kernel)) (hts (.initialized "LastInBox$Kinds") (by decide +kernel)) eB (fun a h => Nat.not_le.mpr h)
  · exact vB
  · exact va_Zof (hts (.laysStatic "java/lang/String" "COMPACT_STRINGS" "Z") (by decide +kernel)) (hts (.initialized "java/lang/String") (by decide +kernel)) (va_eqt (hg (.eq (.static "java/lang/String" "COMPACT_STRINGS" "Z") (.int 1)) (by decide +kernel))) (fun a h => Nat.not_le.mpr h)
  · have e1 : ∀ i, i < 3 → (if 2 + i = 0 then tA else if 2 + i = 1 then tB else if 2 + i < 5 then adK (2 + i - 2) else if 2 + i < 8 then adV (2 + i - 5) else if 2 + i = 8 then b else if 2 + i = 9 then L else (xs (2 + i - 10)).toBitVec.toNat) = adK i := by
      intro i hi
      rw [if_neg (by omega), if_neg (by omega), if_pos (by omega), Nat.add_sub_cancel_left]
    have e2 : ∀ i, i < 3 → (if 5 + i = 0 then tA else if 5 + i = 1 then tB else if 5 + i < 5 then adK (5 + i - 2) else if 5 + i < 8 then adV (5 + i - 5) else if 5 + i = 8 then b else if 5 + i = 9 then L else (xs (5 + i - 10)).toBitVec.toNat) = adV i := by
      intro i hi
      rw [if_neg (by omega), if_neg (by omega), if_neg (by omega), if_pos (by omega), Nat.add_sub_cancel_left]
    refine ⟨fun i hi => ?_, fun i j hi hj h => ?_⟩
    · have h := vS.1 i hi
      dsimp only
      rw [e1 i hi, e2 i hi]
      exact h
    · dsimp only at h
      rw [e1 i hi, e1 j hj] at h
      exact vS.2 i j hi hj h
  · have e : (fun j => nI (if 10 + j = 0 then tA else if 10 + j = 1 then tB else if 10 + j < 5 then adK (10 + j - 2) else if 10 + j < 8 then adV (10 + j - 5) else if 10 + j = 8 then b else if 10 + j = 9 then L else (xs (10 + j - 10)).toBitVec.toNat)) = xs := by
      funext j
      rw [if_neg (by omega), if_neg (by omega), if_neg (by omega), if_neg (by omega), if_neg (by omega), if_neg (by omega), Nat.add_sub_cancel_left]
      exact nI_bits _
    show va_X b L (fun j => nI (if 10 + j = 0 then tA else if 10 + j = 1 then tB else if 10 + j < 5 then adK (10 + j - 2) else if 10 + j < 8 then adV (10 + j - 5) else if 10 + j = 8 then b else if 10 + j = 9 then L else (xs (10 + j - 10)).toBitVec.toNat)) s s.heap
    rw [e]
    exact hX
  · exact hbl
  · exact vk_R.of (hts (.stringRef "LastInBox$Reader" 16 "") (by decide +kernel)) (eS 0 (by omega))
  · exact vk_R.of (hts (.stringRef "LastInBox" 147 "wlkm") (by decide +kernel)) (eS 1 (by omega))
  · exact vk_R.of (hts (.stringRef "LastInBox" 149 "swt") (by decide +kernel)) (eS 2 (by omega))
  · exact List.forall_mem_cons.mpr ⟨va_Nw.of rfl (hts (.methodLinkNest RX9 46 yX8_init "LastInBox") (by decide +kernel)), List.forall_mem_cons.mpr ⟨va_Nw.of rfl (hts (.methodLinkNest RX9 53 yX6_init "LastInBox") (by decide +kernel)), List.forall_mem_cons.mpr ⟨va_Nw.of rfl (hts (.methodLinkNest RX9 9 yX2_init "LastInBox") (by decide +kernel)), List.forall_mem_cons.mpr ⟨va_Nw.of rfl (hts (.methodLinkNest RX1 11 yX3_init "LastInBox") (by decide +kernel)), List.forall_mem_cons.mpr ⟨va_Nw.of rfl (hts (.methodLinkNest RX2 15 yX3_init "LastInBox") (by decide +kernel)), List.forall_mem_cons.mpr ⟨va_Nw.of rfl (hts (.methodLinkNest RX2 25 yX7_init "LastInBox") (by decide +kernel)), List.forall_mem_cons.mpr ⟨va_Nw.of rfl (hts (.methodLinkNest RX5 9 yX7_init "LastInBox") (by decide +kernel)), fun q h => nomatch h⟩⟩⟩⟩⟩⟩⟩
  · exact va_AO.of (hts (.arrayOver (.object "LastInBox$Sheet")) (by decide +kernel))
  · exact va_AO.of (hts (.arrayOver (.object "LastInBox$Heap")) (by decide +kernel))
  · exact zz_AOA.of (hts (.arrayOver (.array .int)) (by decide +kernel))
set_option maxHeartbeats 4000000 in
set_option maxRecDepth 100000 in
theorem whole_start {p : Program} {e : Env} {s : State} {m : MethodId} {below : List Frame} {meth : Method} {c : Code} (l : Launch) (hflags : l.flags = flags0) {b L : Nat} {xs : Nat → Int32} (hL : L ≤ 3072) (C0 : lw_At p s m meth c b L xs) : W p l e room_1 s m #[Value.ref b] below meth c s.heap [] 0 0 (lw_Z below #[Value.ref b] s) (entryFrame m ([Value.ref b] : List Value).toArray 4) := by
  obtain ⟨hx, hb, hr, hml, hown, hts, hX, hbl, hlocks, hgv⟩ := id C0
  obtain ⟨G, hG1, hG2, hG8, hK⟩ := en_KX hts hX hbl hgv
  obtain ⟨z, hz, hf⟩ := law_true L xs hL
  have hP : RP G ((0, fun _ => .inr (0, [])) : HP) s.heap := ⟨Nat.zero_le _, by rw [hG1]; rfl, fun k q h => by simp [wl] at h⟩
  have hl := lv_entry ([.ref b]) (n := 4) (Nat.le_of_ble_eq_true rfl)
  rw [lg_entry_eq]
  generalize (lg_sl ([.ref b]) ++ List.replicate (4 - (lg_sl ([.ref b])).length) Slot.unset).toArray = ls at hl ⊢
  have hLH : LH G ls 4 [some (.ref 1008)] := ⟨hl.1, hl.2.1, fun i v hv => by
    match i, hv with
    | 0, hv =>
      have e : Value.ref 1008 = v := by simpa using hv
      subst e
      rw [show cV G (.ref 1008) = .ref (G.2.1 8) from rfl, hG8]
      exact lv_at hl 0 rfl
    | i + 1, hv => simp at hv⟩
  have hs93 : sz z.1 = 3509 := by rw [hz]; decide +kernel
  refine W.room (R' := rmK 365 ((0, fun _ => .inr (0, [])) : HP) z) (Nat.le_of_ble_eq_true rfl) ?_ ?_ (Nat.le_of_ble_eq_true rfl) ?_
  · show z.1 - 0 ≤ 600000
    omega
  · show sz z.1 - sz 0 ≤ 7302250
    omega
  have K := (g_La_law L xs).2 G hG2 ((0, fun _ => .inr (0, [])) : HP) z (some (.int 1)) p l e _ s m #[Value.ref b] below meth c ⟨hx, hb, hml, hown, fun w h => hts w (List.mem_filter.mp h).1, hr, hlocks, hK, hP, rfl, (fun h => nomatch h)⟩ ((0, fun _ => .inr (0, [])) : HP) hf (Nat.le_refl _) s.heap [] ls hLH hP va_S.rf
  refine W.post (fun t ht => ?_) K
  obtain ⟨o, h1, h2, ⟨h3, -, -⟩, Lc, ⟨h4, h5, h6⟩, h7⟩ := ht
  refine ⟨o, h1, h2, h3, h4, h5, ?_⟩
  have h8 : s.sameButNew ({ t with vm := s.vm } : State) ([] ++ Lc) (z.1 - 0) (sz z.1 - sz 0) := h6
  exact (State.sameButNew.drop_fresh h8 (fun q hq => by rw [← hG1]; exact h7 q hq)).mono (by omega) (by have : sz 0 = 0 := rfl; omega)

-- ===== YOUR PART ENDS =====
set_option maxHeartbeats 4000000 in
theorem lw_walk (l : Launch) (hflags : l.flags = flags0) (b : Addr) (xs : List Int32) : MetFree l x (headSpec (Jvm.Cond.code x code maxLocals ret :: tables_1) room_1) (lw_P b xs) (fun _ _ _ _ _ => True) lw_Q := by
  refine MetFree.of_bodyS (code := code) (maxLocals := maxLocals) (ret := ret) (by decide) ?_ ?_
  · intro args s m h hn
    obtain ⟨meth, c, h1, h2, h3, h4, h5, h6, -, -⟩ := Cond.code_spec hn (atoms_spec (ws := Jvm.Cond.code x code maxLocals ret :: tables_1) h _ List.mem_cons_self)
    exact ⟨meth, c, h1, h2, h3, h4, h5, h6⟩
  · intro p e s m args below meth c s₁ B hml0 hP _
    obtain ⟨rfl, hx, hbd, hgv⟩ := hP
    obtain ⟨scr, harrAt, hlist, hof, hsmall⟩ := hx
    obtain ⟨hcb, hkn, -, -⟩ := State.arrayAt?_spec harrAt
    have hown : s.vm.findClass R_law = some m.cls := findClass_of_methodNamed B.named
    have hts0 : ∀ c ∈ (Jvm.Cond.code x code maxLocals ret :: tables_1), c.before #[Value.ref b] s = true := atoms_spec (ws := Jvm.Cond.code x code maxLocals ret :: tables_1) B.pre
    have hts : ∀ w ∈ lw_tbl, w.before #[Value.ref b] s = true := k2_hts_sels lw_privs (fun w hw => hts0 w (List.mem_cons_of_mem _ hw)) lw_privs_ok
    have hml : c.maxLocals = 4 := B.maxLocals_eq (hts0 _ List.mem_cons_self)
    have X₀ : Stand p l e room_1 s m #[Value.ref b] below meth c s₁ [] 0 0 := Stand.of_body B
    have hh0 : s₁.heap = s.heap := by rw [B.state]; rfl
    have hsz : scr.slots.size = xs.length := by rw [← Array.length_toList, hlist, List.length_map]
    have hval : ∀ j : Nat, j < xs.length → scr.slots[j]? = some (.int (xs.getD j 0)) := fun j hj => by
      rw [← Array.getElem?_toList, hlist]
      simp [hj]
    have hbl : b < s.heap.size := (Array.getElem?_eq_some_iff.mp hcb).1
    have hX : va_X b xs.length (fun j => xs.getD j 0) s s.heap := ⟨scr, hcb, hof, hkn, hsz, hval⟩
    have K : W p l e room_1 s m #[Value.ref b] below meth c s₁.heap [] 0 0 (lw_Z below #[Value.ref b] s) (entryFrame m ([Value.ref b] : List Value).toArray 4) := by
      rw [hh0]
      exact whole_start l hflags hbd ⟨B.exec, B.bytes, B.returns, hml, hown, hts, hX, hbl, B.notSynchronized, hgv⟩
    obtain ⟨t, a1, o, b1, b2, b3⟩ := K s₁ rfl X₀
    exact ⟨t, o, a1, b1, b2, b3⟩
theorem lw_pre_spec {args : Array Value} {s : State} (h : (Jvm.Cond.and given_1 narrow_1).before args s = true) (hr : rest_1_c.before args s = true) : ∃ (b : Addr) (xs : List Int32), lw_P b xs args s := by
  have hs := flat_of_before _ h
  have hq := flat_of_before _ hr
  have hc : (Cond.count 1).before args s = true := hs _ (by decide +kernel)
  have harr : (Cond.arrayOf (.arg 0) .int).before args s = true := hs _ (by decide +kernel)
  have hle : (Cond.le (.length (.arg 0)) (.int 3072)).before args s = true := hs _ (by decide +kernel)
  have hlen : (Cond.isInt (.length (.arg 0))).before args s = true := hq _ (by decide +kernel)
  have hall : (Cond.all (.arg 0) (.isInt (.elem (.arg 0) (.index 0)))).before args s = true := hq _ (by decide +kernel)
  obtain ⟨b, xs, hb, hx⟩ := State.ints_of_pre rfl harr hlen hall
  have hsm : xs.length < 2 ^ 31 := hx.choose_spec.2.2.2
  have hev : (Term.length (.arg 0)).eval args s none [] s = some (.int xs.length.toInt32) := hx.length_eval hb
  have hv := Cond.le_ints hev (show (Term.int 3072).eval args s none [] s = some (.int 3072) from rfl)
  have hd : xs.length.toInt32 ≤ 3072 := by
    simpa [Cond.before, Cond.holds, hv] using hle
  have hN : xs.length ≤ 3072 := (Int32.ofNat_le_ofNat hsm (by decide)).mp (show Int32.ofNat xs.length ≤ Int32.ofNat 3072 from hd)
  exact ⟨b, xs, Cond.one_arg hc (show args[0]? = some (.ref b) from hb), hx, hN, h⟩
theorem lw_comes (l : Launch) (hflags : l.flags = flags0) : Comes l x (Jvm.Cond.code x code maxLocals ret :: tables_1) room_1 (fun tb e args s => Calls_1 tb e args s ∧ rest_1 tb e args s ∧ Pre_1 tb e args s)
    (fun _ _ args s o t => lw_Q args s o t) := by
  intro p e ha hc hk s m args below hf hfit hheap happ hpre
  obtain ⟨b, xs, hP⟩ := lw_pre_spec hpre.2.2 hpre.2.1
  obtain ⟨k, o, h1, h2, h3, hQ⟩ := lw_walk l hflags b xs p e ha hc hk s m args below hf ((Spec.applies_iff_loose hf).mp happ).1 hP trivial
  exact ⟨k, o, h1, h2, h3, hQ⟩
theorem lw_frame {s t : State} {o : Outcome} {args : Array Value} (h : Framed s o t [] 600000 7302250) :
    Framed s o t (fieldLocs frame_1_writes args s ++ arrayLocs frame_1_arrays args s ++ staticLocs frame_1_statics s) 600000 7302250 := h
theorem lw_limb (L : Cond) (hL : ∀ (args : Array Value) (s t : State), L.after args s (.returned (some (.int 1))) t = true) :
    ArmFor flags0 classFile x code maxLocals ret World_1 tables_1 room_1 Calls_1 rest_1 Pre_1
      (fun tb e a s o t => postC L tb e a s o t ∧ Framed s o t (fieldLocs frame_1_writes a s ++ arrayLocs frame_1_arrays a s ++ staticLocs frame_1_statics s) 600000 7302250) := by
  intro l hflags _ _ p e ha hc hk s m args below hf hfit hheap happ hpre
  obtain ⟨k, o, h1, h2, h3, rfl, hF⟩ := lw_comes l hflags p e ha hc hk s m args below hf hfit hheap happ hpre
  exact ⟨k, _, h1, h2, h3, hL args s _, lw_frame hF⟩
theorem i_vc : Claimed_1_1 ∧ Claimed_1_2 := ⟨lw_limb limb_1_1 (fun args s t => by simp [limb_1_1, Cond.after, Cond.holds, Cond.value]), lw_limb limb_1_2 (fun args s t => Cond.after_iff.mpr (by
  first | (rw [show limb_1_2 = Cond.eq .result (.int 1) from rfl, Cond.eq_ints (x := 1) (y := 1) rfl rfl]; simp; done) | (simp [limb_1_2, Cond.value, Term.eval]; done)))⟩
