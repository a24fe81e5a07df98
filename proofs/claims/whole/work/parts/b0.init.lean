def hp0 : HP := (0, fun _ => .inr (0, []))
def hpY (r : RS) : HP := match r with
  | some (_, y) => y
  | none => hp0
def isN (r : RS) : Bool := match r with
  | some (none, _) => true
  | _ => false
theorem isN_eq {r : RS} (h : isN r = true) : r = some (none, hpY r) := by
  match r, h with
  | some (none, _), _ => rfl
  | some (some v, y), h => exact absurd h (by simp [isN])
  | none, h => exact absurd h (by simp [isN])
def hp1 : HP := (1, upH (fun _ => .inr (0, [])) 0 (.inr (8, df_X9)))
def hp2 : HP := hpY (f_Bx_init 0 hp1)
def hp3 : HP := (76, upH hp2.2 75 (.inr (9, df_X10)))
def hp4 : HP := hpY (f_Mo_init 75 hp3)
theorem hp2_eq : f_Bx_init 0 hp1 = some (none, hp2) := isN_eq (by decide +kernel)
theorem hp2_n : hp2.1 = 75 := by decide +kernel
theorem hp4_eq : f_Mo_init 75 hp3 = some (none, hp4) := isN_eq (by decide +kernel)
theorem hp4_n : hp4.1 = 93 := by decide +kernel
def ZC (e : va_E) : Prop := match e with
  | .inl (_, n, .inr (.inr (.inr (.inr q)))) => ∀ i, n ≤ i → q i = none
  | _ => True
def ZH (x : HP) : Prop := (∀ c, x.1 ≤ c → x.2 c = .inr (0, [])) ∧ ∀ c, ZC (x.2 c)
def PZ (f : HP → RS) : Prop := ∀ x v y, ZH x → f x = some (v, y) → ZH y
theorem ZH_up {x : HP} {c : Nat} {e : va_E} (h : ZH x) (hc : c < x.1) (he : ZC e) : ZH (x.1, upH x.2 c e) := by
  refine ⟨fun c' hc' => ?_, fun c' => ?_⟩
  · show (if c' = c then e else x.2 c') = _
    have : x.1 ≤ c' := hc'
    rw [if_neg (by omega)]
    exact h.1 c' hc'
  · show ZC (if c' = c then e else x.2 c')
    split
    · exact he
    · exact h.2 c'
theorem ZH_new {x : HP} {e : va_E} (h : ZH x) (he : ZC e) : ZH (x.1 + 1, upH x.2 x.1 e) := by
  refine ⟨fun c' hc' => ?_, fun c' => ?_⟩
  · show (if c' = x.1 then e else x.2 c') = _
    have : x.1 + 1 ≤ c' := hc'
    rw [if_neg (by omega)]
    exact h.1 c' (by omega)
  · show ZC (if c' = x.1 then e else x.2 c')
    split
    · exact he
    · exact h.2 c'
theorem pz_rt {v : Option Value} : PZ (rt v) := fun x v y h e => by cases e; exact h
theorem pz_none : PZ (fun _ => none) := fun x v y h e => by cases e
theorem pz_cG {g : HP → RS} {F : Option Value → HP → RS} (h1 : PZ g) (h2 : ∀ v, PZ (F v)) : PZ (cG g F) := by
  intro x v y h e
  unfold cG at e
  split at e
  · rename_i v1 y1 e1
    exact h2 v1 y1 v y (h1 x v1 y1 h e1) e
  · cases e
theorem pz_toV {F : HP → RS} (h : PZ F) (v : Option Value) : PZ (toV F v) := by
  unfold toV
  split
  · exact h
  · exact pz_none
theorem pz_nwO {ci N : Nat} {d : List Value} {F : Nat → HP → RS} (h : ∀ r, PZ (F r)) : PZ (nwO ci N d F) := by
  intro x v y hx e
  unfold nwO at e
  split at e
  · exact h _ _ _ _ (ZH_new (e := .inr (ci, d)) hx trivial) e
  · cases e
theorem pz_nwA {t N : Nat} {F : Nat → HP → RS} (h : ∀ r, PZ (F r)) : PZ (nwA t N F) := by
  intro x v y hx e
  unfold nwA at e
  split at e
  · exact h _ _ _ _ (ZH_new (e := .inl (t, N, .inl (fun _ => 0))) hx trivial) e
  · cases e
theorem pz_nwQ {t N : Nat} {F : Nat → HP → RS} (h : ∀ r, PZ (F r)) : PZ (nwQ t N F) := by
  intro x v y hx e
  unfold nwQ at e
  split at e
  · exact h _ _ _ _ (ZH_new (e := .inl (t, N, .inr (.inr (.inr (.inr (fun _ => none)))))) hx (fun _ _ => rfl)) e
  · cases e
theorem pz_nwM {N K : Nat} {F : Nat → HP → RS} (h : ∀ r, PZ (F r)) : PZ (nwM N K F) := by
  intro x v y hx e
  unfold nwM at e
  split at e
  · refine h _ _ _ _ ⟨fun c hc => ?_, fun c => ?_⟩ e
    · have : x.1 + 1 + N ≤ c := hc
      show (if c = x.1 then _ else if x.1 < c ∧ c < x.1 + 1 + N then _ else x.2 c) = _
      rw [if_neg (by omega), if_neg (by omega)]
      exact hx.1 c (by omega)
    · show ZC (if c = x.1 then _ else if x.1 < c ∧ c < x.1 + 1 + N then _ else x.2 c)
      split
      · intro i hi
        exact if_neg (by omega)
      · split
        · exact trivial
        · exact hx.2 c
  · cases e
theorem pz_rR {c ci k : Nat} {F : Nat → HP → RS} (h : ∀ r, PZ (F r)) : PZ (rR c ci k F) := by
  intro x v y hx e
  unfold rR rF at e
  split at e
  · split at e
    · dsimp only at e
      split at e
      · exact h _ _ _ _ hx e
      · cases e
    · cases e
  · cases e
theorem objF_lt {x : HP} {c ci : Nat} {fs : List Value} (h : objF x c ci = some fs) : c < x.1 := by
  unfold objF at h
  split at h
  · assumption
  · cases h
theorem arrI_lt {x : HP} {c t : Nat} {p : Nat × (Nat → Int32)} (h : arrI x c t = some p) : c < x.1 := by
  unfold arrI at h
  split at h
  · assumption
  · cases h
theorem arrQ_lt {x : HP} {c t n : Nat} {f : Nat → Option Nat} (h : arrQ x c t = some (n, f)) (hx : ZH x) : c < x.1 ∧ ∀ i, n ≤ i → f i = none := by
  have hz := hx.2 c
  unfold arrQ at h
  split at h
  · rename_i hc
    refine ⟨hc, ?_⟩
    split at h
    · rename_i t' n' f' e
      rw [e] at hz
      split at h
      · cases h
        exact hz
      · cases h
    · cases h
  · cases h
theorem pz_wF {c ci k : Nat} {w : Value} {F : HP → RS} (h : PZ F) : PZ (wF c ci k w F) := by
  intro x v y hx e
  unfold wF at e
  split at e
  · rename_i fs e1
    split at e
    · exact h _ _ _ (ZH_up (e := .inr (ci, fs.set k w)) hx (objF_lt e1) trivial) e
    · cases e
  · cases e
theorem pz_sI {c t : Nat} {i w : Int32} {F : HP → RS} (h : PZ F) : PZ (sI c t i w F) := by
  intro x v y hx e
  unfold sI at e
  split at e
  · rename_i n f e1
    split at e
    · cases e
    · exact h _ _ _ (ZH_up (e := .inl (t, n, .inl (upd f i.toNatClampNeg w))) hx (arrI_lt e1) trivial) e
  · cases e
theorem pz_sR {c t w ci : Nat} {i : Int32} {F : HP → RS} (h : PZ F) : PZ (sR c t i w ci F) := by
  intro x v y hx e
  unfold sR at e
  split at e
  · rename_i n f fs e1 e2
    split at e
    · cases e
    · rename_i hi
      obtain ⟨q1, q2⟩ := arrQ_lt e1 hx
      refine h _ _ _ (ZH_up (e := .inl (t, n, .inr (.inr (.inr (.inr (va_up f i.toNatClampNeg (some w))))))) hx q1 (fun j hj => ?_)) e
      show (if j = i.toNatClampNeg then _ else f j) = none
      rw [if_neg (fun q => hi (Or.inr (by omega)))]
      exact q2 j hj
  · cases e
theorem pz_He {v0 : Nat} : PZ (f_He_init v0) := by
  unfold f_He_init
  repeat' first | exact pz_rt | refine pz_nwA (fun r => ?_) | refine pz_wF ?_
theorem pz_Te {v0 : Nat} : PZ (f_Te_init v0) := by
  unfold f_Te_init
  repeat' first | exact pz_rt | refine pz_nwA (fun r => ?_) | refine pz_wF ?_
theorem pz_Sh {v0 : Nat} : PZ (f_Sh_init v0) := by
  unfold f_Sh_init
  repeat' first | exact pz_rt | refine pz_nwA (fun r => ?_) | refine pz_wF ?_
theorem pz_Vo {v0 : Nat} : PZ (f_Vo_init v0) := by
  unfold f_Vo_init
  repeat' first | exact pz_rt | refine pz_nwA (fun r => ?_) | refine pz_wF ?_
theorem pz_Ch {v0 v1 : Nat} : PZ (f_Ch_init v0 v1) := by
  unfold f_Ch_init
  repeat' first | exact pz_rt | refine pz_nwA (fun r => ?_) | refine pz_wF ?_
theorem pz_Re {v0 v1 : Nat} : PZ (f_Re_init v0 v1) := by
  unfold f_Re_init
  repeat' first | exact pz_rt | refine pz_nwO (fun r => ?_) | refine pz_wF ?_ | refine pz_cG pz_Te (pz_toV ?_)
theorem pz_Ha {v0 : Nat} : PZ (f_Ha_init v0) := by
  unfold f_Ha_init
  repeat' first | exact pz_rt | refine pz_nwA (fun r => ?_) | refine pz_nwO (fun r => ?_) | refine pz_wF ?_ | refine pz_sI ?_ | refine pz_cG pz_Te (pz_toV ?_) | refine pz_cG pz_He (pz_toV ?_)
theorem pz_Fo {v0 v1 v2 : Nat} : PZ (f_Fo_init v0 v1 v2) := by
  unfold f_Fo_init
  repeat' first | exact pz_rt | refine pz_nwA (fun r => ?_) | refine pz_nwO (fun r => ?_) | refine pz_nwQ (fun r => ?_) | refine pz_nwM (fun r => ?_) | refine pz_wF ?_ | refine pz_sR ?_ | refine pz_cG pz_He (pz_toV ?_)
theorem pz_Bx {v0 : Nat} : PZ (f_Bx_init v0) := by
  unfold f_Bx_init
  repeat' first | exact pz_rt | refine pz_nwA (fun r => ?_) | refine pz_nwO (fun r => ?_) | refine pz_nwQ (fun r => ?_) | refine pz_wF ?_ | refine pz_sR ?_ | refine pz_rR (fun r => ?_) | refine pz_cG pz_Ha (pz_toV ?_) | refine pz_cG pz_Ch (pz_toV ?_) | refine pz_cG pz_Fo (pz_toV ?_) | refine pz_cG pz_Re (pz_toV ?_) | refine pz_cG pz_Vo (pz_toV ?_) | refine pz_cG pz_Sh (pz_toV ?_)
theorem pz_Mo {v0 : Nat} : PZ (f_Mo_init v0) := by
  unfold f_Mo_init
  repeat' first | exact pz_rt | refine pz_nwA (fun r => ?_) | refine pz_wF ?_ | refine pz_sI ?_ | refine pz_rR (fun r => ?_)
theorem zh0 : ZH hp0 := ⟨fun _ _ => rfl, fun _ => trivial⟩
theorem zh1 : ZH hp1 := ZH_new (x := hp0) zh0 trivial
theorem zh2 : ZH hp2 := pz_Bx _ _ _ zh1 hp2_eq
theorem zh3 : ZH hp3 := by
  have h := ZH_new (x := hp2) (e := .inr (9, df_X10)) zh2 trivial
  rw [hp2_n] at h
  exact h
theorem zh4 : ZH hp4 := pz_Mo _ _ _ zh3 hp4_eq
def vI (v : Value) : Int32 := match v with
  | .int z => z
  | .ref a => ii a
  | _ => 0
def cI (e : va_E) (k : Nat) : Int32 := match e with
  | .inl (_, _, .inl f) => f k
  | .inr (_, fs) => vI (fs.getD k .null)
  | _ => 0
def I0 : Mem := fun c => cI (hp4.2 c)
def J0 : Nat → Int64 := fun _ => 0
def vOK (c ci k t : Nat) (v : Value) : Bool := match t, v with
  | 0, .int _ => true
  | 1, .long z => decide (z = 0)
  | 2, .ref a => Nat.beq a (rtc c ci k)
  | 3, .ref a => Nat.blt a 2000
  | _, _ => false
def cOK (c : Nat) (e : va_E) : Bool := match e with
  | .inl (t, n, .inl _) => Nat.blt (ck c) 200 && Nat.ble 100 (ck c) && Nat.beq t (ck c - 100) && Nat.beq n (szc c)
  | .inl (t, n, .inr (.inr (.inr (.inr q)))) => Nat.blt (ck c) 300 && Nat.ble 200 (ck c) && Nat.beq t (ck c - 200) && Nat.beq n (szc c) && (List.range n).all (fun i => decide (q i = qf c i)) && (Nat.beq c 33 && Nat.beq n 7 || Nat.beq c 48 && Nat.beq n 5 || Nat.beq c 65 && Nat.beq n 4)
  | .inr (ci, fs) => Nat.blt (ck c) 100 && Nat.beq ci (ck c) && Nat.beq fs.length (fkl ci).length && (List.range (fkl ci).length).all (fun k => vOK c ci k ((fkl ci).getD k 0) (fs.getD k .null))
  | _ => false
theorem hp4_ok : (List.range 93).all (fun c => cOK c (hp4.2 c)) = true := by decide +kernel
theorem nref (a : Nat) {k : Nat} (h : a < 2000) : a = (if k = k then ii (a : Int) else 0).toNatClampNeg := by
  rw [if_pos rfl, ii_idx (by omega) (by omega)]
  rfl
theorem vOK_eq {c ci k t : Nat} {v : Value} (h : vOK c ci k t v = true) (ht : t < 4) : v = fv c ci k t (fun j => if j = k then vI v else 0) J0 := by
  unfold vOK at h
  split at h
  · exact congrArg Value.int (if_pos rfl).symm
  · rename_i z
    have := of_decide_eq_true h
    subst this
    rfl
  · rename_i a
    exact congrArg Value.ref (Nat.eq_of_beq_eq_true h)
  · rename_i a
    exact congrArg Value.ref (nref a (Nat.le_of_ble_eq_true h))
  · cases h
theorem fv_loc {c ci k t : Nat} {g g' : Nat → Int32} {J : Nat → Int64} (h : g k = g' k) : fv c ci k t g J = fv c ci k t g' J := by
  unfold fv
  split
  · rw [h]
  · rfl
  · rfl
  · rw [h]
theorem fkl_lt : ∀ ci, ci < 100 → ∀ k, k < (fkl ci).length → (fkl ci).getD k 0 < 4 := by
  have h : (List.range 100).all (fun ci => (List.range (fkl ci).length).all (fun k => Nat.blt ((fkl ci).getD k 0) 4)) = true := by decide +kernel
  intro ci hci k hk
  have h1 := List.all_eq_true.mp h ci (List.mem_range.mpr hci)
  have h2 := List.all_eq_true.mp h1 k (List.mem_range.mpr hk)
  exact Nat.le_of_ble_eq_true h2
theorem qf_end {c n : Nat} (h : c = 33 ∧ n = 7 ∨ c = 48 ∧ n = 5 ∨ c = 65 ∧ n = 4) {i : Nat} (hi : n ≤ i) : qf c i = none := by
  unfold qf
  rcases h with ⟨rfl, rfl⟩ | ⟨rfl, rfl⟩ | ⟨rfl, rfl⟩
  · rw [if_pos rfl, if_neg (by omega)]
  · rw [if_neg (by omega), if_pos rfl, if_neg (by omega)]
  · rw [if_neg (by omega), if_neg (by omega), if_neg (by omega)]
theorem getD_lt {l : List Value} {k : Nat} (h : k < l.length) : l[k]? = some (l.getD k .null) := by
  rw [List.getElem?_eq_getElem h, List.getD, List.getElem?_eq_getElem h]
  rfl
theorem cOK_eq {c : Nat} {e : va_E} (h : cOK c e = true) (hz : ZC e) : e = mkC c (cI e) J0 := by
  match e, h, hz with
  | .inl (t, n, .inl f), h, hz =>
    simp only [cOK, Bool.and_eq_true] at h
    obtain ⟨⟨⟨h1, h2⟩, h3⟩, h4⟩ := h
    have h1 : ck c < 200 := Nat.le_of_ble_eq_true h1
    have h2 := Nat.le_of_ble_eq_true h2
    have h3 := Nat.eq_of_beq_eq_true h3
    have h4 := Nat.eq_of_beq_eq_true h4
    unfold mkC
    rw [if_neg (by omega), if_pos h1, h3, h4]
    rfl
  | .inl (t, n, .inr (.inr (.inr (.inr q)))), h, hz =>
    simp only [cOK, Bool.and_eq_true, Bool.or_eq_true] at h
    obtain ⟨⟨⟨⟨⟨h1, h2⟩, h3⟩, h4⟩, h5⟩, h6⟩ := h
    have h1 : ck c < 300 := Nat.le_of_ble_eq_true h1
    have h2 := Nat.le_of_ble_eq_true h2
    have h3 := Nat.eq_of_beq_eq_true h3
    have h4 := Nat.eq_of_beq_eq_true h4
    have h6 : c = 33 ∧ n = 7 ∨ c = 48 ∧ n = 5 ∨ c = 65 ∧ n = 4 := by
      rcases h6 with (⟨a, b⟩ | ⟨a, b⟩) | ⟨a, b⟩
      · exact Or.inl ⟨Nat.eq_of_beq_eq_true a, Nat.eq_of_beq_eq_true b⟩
      · exact Or.inr (Or.inl ⟨Nat.eq_of_beq_eq_true a, Nat.eq_of_beq_eq_true b⟩)
      · exact Or.inr (Or.inr ⟨Nat.eq_of_beq_eq_true a, Nat.eq_of_beq_eq_true b⟩)
    have hq : q = qf c := by
      funext i
      by_cases hi : i < n
      · exact of_decide_eq_true (List.all_eq_true.mp h5 i (List.mem_range.mpr hi))
      · rw [qf_end h6 (by omega)]
        exact hz i (by omega)
    unfold mkC
    rw [if_neg (by omega), if_neg (by omega), if_pos h1, h3, h4, hq]
  | .inr (ci, fs), h, hz =>
    simp only [cOK, Bool.and_eq_true] at h
    obtain ⟨⟨⟨h1, h2⟩, h3⟩, h4⟩ := h
    have h1 : ck c < 100 := Nat.le_of_ble_eq_true h1
    have h2 := Nat.eq_of_beq_eq_true h2
    have h3 := Nat.eq_of_beq_eq_true h3
    subst h2
    unfold mkC
    rw [if_pos h1]
    have hf : fs = fvs c (ck c) (cI (.inr (ck c, fs))) J0 := by
      apply List.ext_getElem?
      intro k
      by_cases hk : k < (fkl (ck c)).length
      · rw [fvs_get hk, getD_lt (by omega)]
        have h5 := List.all_eq_true.mp h4 k (List.mem_range.mpr hk)
        have h6 := fkl_lt (ck c) h1 k hk
        have h7 := vOK_eq h5 h6
        have h8 : (fkl (ck c)).getD k 9 = (fkl (ck c)).getD k 0 := by
          rw [List.getD, List.getD, List.getElem?_eq_getElem hk]
          rfl
        rw [h8]
        refine congrArg some (h7.trans (fv_loc ?_))
        exact if_pos rfl
      · rw [List.getElem?_eq_none (by omega), List.getElem?_eq_none (by rw [fvs_len]; omega)]
    rw [← hf]
theorem hp4_M : hp4 = M I0 J0 := by
  refine Prod.ext hp4_n ?_
  funext c
  show hp4.2 c = mkC c (cI (hp4.2 c)) J0
  by_cases hc : c < 93
  · exact cOK_eq (List.all_eq_true.mp hp4_ok c (List.mem_range.mpr hc)) (zh4.2 c)
  · have h1 := zh4.1 c (by rw [hp4_n]; omega)
    rw [h1]
    have h2 : ck c = 300 := by
      unfold ck
      rw [List.getD, List.getElem?_eq_none (by show 93 ≤ c; omega)]
      rfl
    unfold mkC
    rw [h2]
    rfl
