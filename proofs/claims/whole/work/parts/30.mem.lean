abbrev Mem : Type := Nat → Nat → Int32
def ii (z : Int) : Int32 := Int32.ofInt z
theorem lit_ii (k : Nat) : (OfNat.ofNat k : Int32) = ii (OfNat.ofNat k) := by
  unfold ii
  show Int32.ofNat k = Int32.ofInt ((k:Nat) : Int)
  exact (Int32.ofInt_eq_ofNat (n := k)).symm
theorem ofNat_ii (k : Nat) : Int32.ofNat k = ii (k : Int) := (Int32.ofInt_eq_ofNat (n := k)).symm
theorem ii_add (a b : Int) : ii a + ii b = ii (a + b) := (Int32.ofInt_add a b).symm
theorem ii_sub (a b : Int) : ii a - ii b = ii (a - b) := (Int32.ofInt_sub a b).symm
theorem ii_mul (a b : Int) : ii a * ii b = ii (a * b) := (Int32.ofInt_mul a b).symm
theorem ii_neg (a : Int) : -ii a = ii (-a) := (Int32.ofInt_neg a).symm
theorem ii_toInt {a : Int} (h : -2147483648 ≤ a) (h2 : a < 2147483648) : (ii a).toInt = a := Int32.toInt_ofInt_of_le h h2
theorem ii_lt {a b : Int} (h : -2147483648 ≤ a) (h2 : a < 2147483648) (h3 : -2147483648 ≤ b) (h4 : b < 2147483648) : (ii a < ii b) = (a < b) := by
  rw [Int32.lt_iff_toInt_lt, ii_toInt h h2, ii_toInt h3 h4]
theorem ii_le {a b : Int} (h : -2147483648 ≤ a) (h2 : a < 2147483648) (h3 : -2147483648 ≤ b) (h4 : b < 2147483648) : (ii a ≤ ii b) = (a ≤ b) := by
  rw [Int32.le_iff_toInt_le, ii_toInt h h2, ii_toInt h3 h4]
theorem ii_inj {a b : Int} (h : -2147483648 ≤ a) (h2 : a < 2147483648) (h3 : -2147483648 ≤ b) (h4 : b < 2147483648) : (ii a = ii b) = (a = b) := by
  refine propext ⟨fun e => ?_, fun e => by rw [e]⟩
  rw [← ii_toInt h h2, ← ii_toInt h3 h4, e]
theorem ii_of (v : Int32) : ii v.toInt = v := Int32.ofInt_toInt v
theorem ii_ex (v : Int32) : ∃ z : Int, -2147483648 ≤ z ∧ z < 2147483648 ∧ v = ii z := ⟨v.toInt, Int32.le_toInt v, Int32.toInt_lt v, (ii_of v).symm⟩
theorem ii_idx {a : Int} (h : -2147483648 ≤ a) (h2 : a < 2147483648) : (ii a).toNatClampNeg = a.toNat := by
  show (ii a).toInt.toNat = a.toNat
  rw [ii_toInt h h2]
theorem ii_div {a b : Int} (h : -2147483648 < a) (h2 : a < 2147483648) (h3 : -2147483648 ≤ b) (h4 : b < 2147483648) : ii a / ii b = ii (a.tdiv b) := by
  rw [← ii_of (ii a / ii b), Int32.toInt_div_of_ne_left, ii_toInt (Int.le_of_lt h) h2, ii_toInt h3 h4]
  intro e
  have := congrArg Int32.toInt e
  rw [ii_toInt (Int.le_of_lt h) h2] at this
  have e2 : (Int32.minValue).toInt = -2147483648 := by decide
  omega
def ckL : List Nat := [8, 2, 100, 3, 100, 100, 6, 100, 100, 6, 100, 100, 100, 100, 100, 2, 100, 3, 100, 100, 6, 100, 100, 6, 100, 100, 100, 100, 100, 0, 100, 100, 1, 204, 3, 100, 3, 100, 3, 100, 3, 100, 3, 100, 3, 100, 3, 100, 202, 100, 100, 100, 100, 100, 100, 100, 100, 100, 100, 4, 6, 100, 100, 7, 100, 203, 5, 100, 5, 100, 5, 100, 5, 100, 100, 9, 100, 100, 100, 100, 100, 100, 100, 100, 101, 100, 100, 100, 100, 100, 100, 100, 100]
def ck (c : Nat) : Nat := ckL.getD c 300
def fkL : List (List Nat) := [[2, 2, 2, 0, 0, 0, 0], [2, 2, 2, 2, 2, 2, 2, 2, 2, 0, 0, 0, 0, 0], [2, 2, 2, 2, 2, 2, 2, 2, 0, 0, 0, 0, 0, 0, 0, 0], [2, 0, 0], [2, 2, 3, 0], [2, 0, 0], [2, 2, 0], [2, 0, 0, 0, 0], [2, 2, 2, 2, 2, 2, 2, 2, 0], [2, 2, 2, 0, 2, 0, 0, 0, 0, 2, 2, 2, 2, 0, 0, 0, 0, 2, 2, 2, 2, 0, 0, 1, 1, 0, 0, 2, 0, 0, 2, 2, 2, 2]]
def fkl (ci : Nat) : List Nat := fkL.getD ci []
def rtL : List (List Nat) := [[1, 30, 31], [1, 29, 33, 48, 54, 55, 56, 57, 58], [1, 2, 4, 5, 8, 11, 12, 13], [1], [1, 60], [1], [1, 2], [64], [1, 15, 29, 32, 59, 63, 65, 74], [76, 77, 78, 0, 79, 0, 0, 0, 0, 80, 81, 82, 83, 0, 0, 0, 0, 84, 85, 86, 87, 0, 0, 0, 0, 0, 0, 88, 0, 0, 89, 90, 91, 92]]
def rtc (c ci k : Nat) : Nat := (rtL.getD ci []).getD k 0 + (if ci = 2 ∨ ci = 3 ∨ ci = 5 ∨ ci = 6 then c else 0)
def fv (c ci k t : Nat) (g : Nat → Int32) (J : Nat → Int64) : Value := match t with
  | 0 => .int (g k)
  | 1 => .long (J k)
  | 2 => .ref (rtc c ci k)
  | _ => .ref (g k).toNatClampNeg
def fvs (c ci : Nat) (g : Nat → Int32) (J : Nat → Int64) : List Value := (List.range (fkl ci).length).map (fun k => fv c ci k ((fkl ci).getD k 0) g J)
def qf (c i : Nat) : Option Nat := if c = 33 then (if i < 7 then some (34 + 2 * i) else none) else if c = 48 then (if i < 5 then some (49 + i) else none) else if i < 4 then some (66 + 2 * i) else none
def mkC (c : Nat) (g : Nat → Int32) (J : Nat → Int64) : va_E :=
  if ck c < 100 then .inr (ck c, fvs c (ck c) g J) else if ck c < 200 then .inl (ck c - 100, szc c, .inl g) else if ck c < 300 then .inl (ck c - 200, szc c, .inr (.inr (.inr (.inr (qf c))))) else .inr (0, [])
def M (I : Nat → Nat → Int32) (J : Nat → Int64) : HP := (93, fun c => mkC c (I c) J)
def st (I : Nat → Nat → Int32) (c k : Nat) (v : Int32) : Nat → Nat → Int32 := fun c' k' => if c' = c ∧ k' = k then v else I c' k'
def sa (I : Nat → Nat → Int32) (c : Nat) (f : Nat → Int32) : Nat → Nat → Int32 := fun c' => if c' = c then f else I c'
def sj (J : Nat → Int64) (k : Nat) (v : Int64) : Nat → Int64 := fun k' => if k' = k then v else J k'
theorem st_eq {I : Nat → Nat → Int32} {c k : Nat} {v : Int32} : st I c k v = sa I c (upd (I c) k v) := by
  funext c' k'
  unfold st sa upd
  by_cases h : c' = c
  · subst h; simp
  · simp [h]
theorem M_sa {I : Nat → Nat → Int32} {J : Nat → Int64} {c : Nat} {f : Nat → Int32} : M (sa I c f) J = (93, upH (M I J).2 c (mkC c f J)) := by
  unfold M upH sa
  refine Prod.ext rfl ?_
  funext c'
  by_cases h : c' = c
  · subst h; simp
  · simp [h]
def pO (c ci : Nat) : Bool := Nat.ble (c + 1) 93 && Nat.beq (ck c) ci && Nat.ble (ci + 1) 100
def pI (c ci k : Nat) : Bool := pO c ci && Nat.ble (k + 1) (fkl ci).length && Nat.beq ((fkl ci).getD k 9) 0
def pJ (c ci k : Nat) : Bool := pO c ci && Nat.ble (k + 1) (fkl ci).length && Nat.beq ((fkl ci).getD k 9) 1
def pR (c ci k d : Nat) : Bool := pO c ci && Nat.ble (k + 1) (fkl ci).length && Nat.beq ((fkl ci).getD k 9) 2 && Nat.beq (rtc c ci k) d
def pN (c ci k : Nat) : Bool := pO c ci && Nat.ble (k + 1) (fkl ci).length && Nat.beq ((fkl ci).getD k 9) 3
def pA (c t n : Nat) : Bool := Nat.ble (c + 1) 93 && Nat.beq (ck c) (100 + t) && Nat.ble (t + 1) 100 && Nat.beq (szc c) n && Nat.ble n 1000
def pQ (c t n : Nat) : Bool := Nat.ble (c + 1) 93 && Nat.beq (ck c) (200 + t) && Nat.ble (t + 1) 100 && Nat.beq (szc c) n && Nat.ble n 1000
theorem pO_use {c ci : Nat} (h : pO c ci = true) (I : Nat → Nat → Int32) (J : Nat → Int64) : objF (M I J) c ci = some (fvs c ci (I c) J) ∧ ∀ g, mkC c g J = .inr (ci, fvs c ci g J) := by
  unfold pO at h
  simp only [Bool.and_eq_true, Nat.beq_eq, Nat.ble_eq] at h
  obtain ⟨⟨h1, h2⟩, h3⟩ := h
  have key : ∀ g, mkC c g J = .inr (ci, fvs c ci g J) := by
    intro g
    unfold mkC
    rw [if_pos (by omega), h2]
  refine ⟨?_, key⟩
  show (if c < 93 then (match mkC c (I c) J with
    | .inr (ci', fs) => if ci' = ci then some fs else none
    | _ => none) else none) = _
  rw [if_pos (show c < 93 by omega), key]
  simp only [if_true]
theorem obT_M {c ci : Nat} {F : HP → RS} {I : Nat → Nat → Int32} {J : Nat → Int64} (h : pO c ci = true) : obT c ci F (M I J) = F (M I J) := by
  unfold obT
  rw [(pO_use h I J).1]
theorem fvs_get {c ci k : Nat} {g : Nat → Int32} {J : Nat → Int64} (h : k < (fkl ci).length) : (fvs c ci g J)[k]? = some (fv c ci k ((fkl ci).getD k 9) g J) := by
  unfold fvs
  simp [h]
theorem fvs_len {c ci : Nat} {g : Nat → Int32} {J : Nat → Int64} : (fvs c ci g J).length = (fkl ci).length := by simp [fvs]
theorem rI_M {c ci k : Nat} {F : Int32 → HP → RS} {I : Nat → Nat → Int32} {J : Nat → Int64} (h : pI c ci k = true) : rI c ci k F (M I J) = F (I c k) (M I J) := by
  unfold pI at h
  simp only [Bool.and_eq_true, Nat.beq_eq, Nat.ble_eq] at h
  obtain ⟨⟨h1, h2⟩, h3⟩ := h
  unfold rI rF
  simp only [(pO_use h1 I J).1, fvs_get h2, h3, fv]
theorem rJ_M {c ci k : Nat} {F : Int64 → HP → RS} {I : Nat → Nat → Int32} {J : Nat → Int64} (h : pJ c ci k = true) : rJ c ci k F (M I J) = F (J k) (M I J) := by
  unfold pJ at h
  simp only [Bool.and_eq_true, Nat.beq_eq, Nat.ble_eq] at h
  obtain ⟨⟨h1, h2⟩, h3⟩ := h
  unfold rJ rF
  simp only [(pO_use h1 I J).1, fvs_get h2, h3, fv]
theorem rR_M {c ci k d : Nat} {F : Nat → HP → RS} {I : Nat → Nat → Int32} {J : Nat → Int64} (h : pR c ci k d = true) : rR c ci k F (M I J) = F d (M I J) := by
  unfold pR at h
  simp only [Bool.and_eq_true, Nat.beq_eq, Nat.ble_eq] at h
  obtain ⟨⟨⟨h1, h2⟩, h3⟩, h4⟩ := h
  unfold rR rF
  simp only [(pO_use h1 I J).1, fvs_get h2, h3, fv, h4]
theorem rR_N {c ci k : Nat} {F : Nat → HP → RS} {I : Nat → Nat → Int32} {J : Nat → Int64} (h : pN c ci k = true) : rR c ci k F (M I J) = F (I c k).toNatClampNeg (M I J) := by
  unfold pN at h
  simp only [Bool.and_eq_true, Nat.beq_eq, Nat.ble_eq] at h
  obtain ⟨⟨h1, h2⟩, h3⟩ := h
  unfold rR rF
  simp only [(pO_use h1 I J).1, fvs_get h2, h3, fv]
theorem wF_M {c ci k : Nat} {v : Int32} {F : HP → RS} {I : Nat → Nat → Int32} {J : Nat → Int64} (h : pI c ci k = true) : wF c ci k (.int v) F (M I J) = F (M (st I c k v) J) := by
  unfold pI at h
  simp only [Bool.and_eq_true, Nat.beq_eq, Nat.ble_eq] at h
  obtain ⟨⟨h1, h2⟩, h3⟩ := h
  unfold wF
  simp only [(pO_use h1 I J).1, fvs_len]
  rw [if_pos (show k < (fkl ci).length by omega), st_eq, M_sa, (pO_use h1 I J).2]
  refine congrArg F (Prod.ext rfl (congrArg (fun q => upH (M I J).2 c (.inr (ci, q))) ?_))
  apply List.ext_getElem?
  intro j
  by_cases hj : j = k
  · subst hj
    rw [List.getElem?_set_self (by rw [fvs_len]; exact h2), fvs_get h2, h3]
    simp [fv, upd]
  · rw [List.getElem?_set_ne (Ne.symm hj)]
    by_cases hl : j < (fkl ci).length
    · rw [fvs_get hl, fvs_get hl]
      unfold fv upd
      simp [hj]
    · rw [List.getElem?_eq_none (by rw [fvs_len]; omega), List.getElem?_eq_none (by rw [fvs_len]; omega)]
theorem wF_N {c ci k d : Nat} {F : HP → RS} {I : Nat → Nat → Int32} {J : Nat → Int64} (h : pN c ci k = true) (hd : d < 2000) : wF c ci k (.ref d) F (M I J) = F (M (st I c k (ii d)) J) := by
  unfold pN at h
  simp only [Bool.and_eq_true, Nat.beq_eq, Nat.ble_eq] at h
  obtain ⟨⟨h1, h2⟩, h3⟩ := h
  unfold wF
  simp only [(pO_use h1 I J).1, fvs_len]
  rw [if_pos (show k < (fkl ci).length by omega), st_eq, M_sa, (pO_use h1 I J).2]
  refine congrArg F (Prod.ext rfl (congrArg (fun q => upH (M I J).2 c (.inr (ci, q))) ?_))
  apply List.ext_getElem?
  intro j
  by_cases hj : j = k
  · subst hj
    rw [List.getElem?_set_self (by rw [fvs_len]; exact h2), fvs_get h2, h3]
    simp only [fv, upd, if_true]
    rw [ii_idx (by omega) (by omega)]
    rfl
  · rw [List.getElem?_set_ne (Ne.symm hj)]
    by_cases hl : j < (fkl ci).length
    · rw [fvs_get hl, fvs_get hl]
      unfold fv upd
      simp [hj]
    · rw [List.getElem?_eq_none (by rw [fvs_len]; omega), List.getElem?_eq_none (by rw [fvs_len]; omega)]
theorem wF_J {c ci k : Nat} {v : Int64} {F : HP → RS} {I : Nat → Nat → Int32} {J : Nat → Int64} (h : pJ c ci k = true) (hu : Nat.beq c 75 = true) : wF c ci k (.long v) F (M I J) = F (M I (sj J k v)) := by
  unfold pJ at h
  simp only [Bool.and_eq_true, Nat.beq_eq, Nat.ble_eq] at h hu
  obtain ⟨⟨h1, h2⟩, h3⟩ := h
  subst hu
  have hci : ci = 9 := by
    unfold pO at h1
    simp only [Bool.and_eq_true, Nat.beq_eq, Nat.ble_eq] at h1
    exact h1.1.2.symm
  subst hci
  unfold wF
  simp only [(pO_use h1 I J).1, fvs_len]
  rw [if_pos (show k < (fkl 9).length by omega)]
  refine congrArg F (Prod.ext rfl ?_)
  funext c'
  show (if c' = 75 then _ else mkC c' (I c') J) = mkC c' (I c') (sj J k v)
  have other : ∀ c', c' ≠ 75 → mkC c' (I c') J = mkC c' (I c') (sj J k v) := by
    intro c' hc
    unfold mkC
    split
    · rename_i hk
      refine congrArg _ (Prod.ext rfl ?_)
      unfold fvs
      refine List.map_congr_left ?_
      intro j hj
      unfold fv
      have : (fkl (ck c')).getD j 0 ≠ 1 := by
        have hcc : c' < 93 ∨ 93 ≤ c' := by omega
        rcases hcc with hcc | hcc
        · have hall : ∀ c', c' < 93 → c' ≠ 75 → ∀ j, j < 40 → (fkl (ck c')).getD j 0 ≠ 1 := by decide +kernel
          by_cases hj2 : j < 40
          · exact hall c' hcc hc j hj2
          · have hl : ∀ c', c' < 93 → (fkl (ck c')).length < 40 := by decide +kernel
            rw [List.getD_eq_getElem?_getD, List.getElem?_eq_none (by have := hl c' hcc; omega)]
            decide
        · have : ck c' = 300 := by
            unfold ck
            rw [List.getD_eq_getElem?_getD, List.getElem?_eq_none (show ckL.length ≤ c' from hcc)]
            rfl
          omega
      split <;> simp_all
    · rfl
  by_cases hc : c' = 75
  · subst hc
    rw [if_pos rfl]
    have e : ∀ J, mkC 75 (I 75) J = .inr (9, fvs 75 9 (I 75) J) := fun J => rfl
    rw [e]
    refine congrArg _ (Prod.ext rfl ?_)
    apply List.ext_getElem?
    intro j
    by_cases hj : j = k
    · subst hj
      rw [List.getElem?_set_self (by rw [fvs_len]; exact h2), fvs_get h2, h3]
      simp [fv, sj]
    · rw [List.getElem?_set_ne (Ne.symm hj)]
      by_cases hl : j < (fkl 9).length
      · rw [fvs_get hl, fvs_get hl]
        unfold fv sj
        simp [hj]
      · rw [List.getElem?_eq_none (by rw [fvs_len]; omega), List.getElem?_eq_none (by rw [fvs_len]; omega)]
  · rw [if_neg hc]
    exact other c' hc
theorem pA_use {c t n : Nat} (h : pA c t n = true) (I : Mem) (J : Nat → Int64) : arrI (M I J) c t = some (n, I c) ∧ (∀ g, mkC c g J = .inl (t, n, .inl g)) ∧ n ≤ 1000 := by
  unfold pA at h
  simp only [Bool.and_eq_true, Nat.beq_eq, Nat.ble_eq] at h
  obtain ⟨⟨⟨⟨h1, h2⟩, h3⟩, h4⟩, h5⟩ := h
  have key : ∀ g, mkC c g J = .inl (t, n, .inl g) := by
    intro g
    unfold mkC
    rw [if_neg (by omega), if_pos (by omega), h2, h4]
    simp
  refine ⟨?_, key, h5⟩
  show (if c < 93 then (match mkC c (I c) J with
    | .inl (t', n, .inl f) => if t' = t then some (n, f) else none
    | _ => none) else none) = _
  rw [if_pos (show c < 93 by omega), key]
  simp only [if_true]
theorem pQ_use {c t n : Nat} (h : pQ c t n = true) (I : Mem) (J : Nat → Int64) : arrQ (M I J) c t = some (n, qf c) ∧ n ≤ 1000 := by
  unfold pQ at h
  simp only [Bool.and_eq_true, Nat.beq_eq, Nat.ble_eq] at h
  obtain ⟨⟨⟨⟨h1, h2⟩, h3⟩, h4⟩, h5⟩ := h
  have key : ∀ g, mkC c g J = .inl (t, n, .inr (.inr (.inr (.inr (qf c))))) := by
    intro g
    unfold mkC
    rw [if_neg (by omega), if_neg (by omega), if_pos (by omega), h2, h4]
    simp
  refine ⟨?_, h5⟩
  show (if c < 93 then (match mkC c (I c) J with
    | .inl (t', n, .inr (.inr (.inr (.inr f)))) => if t' = t then some (n, f) else none
    | _ => none) else none) = _
  rw [if_pos (show c < 93 by omega), key]
  simp only [if_true]
theorem ok_idx {z : Int} {n : Nat} (h : 0 ≤ z) (h2 : z < n) (hn : n ≤ 1000) : ¬ (ii z < 0 ∨ n ≤ (ii z).toNatClampNeg) := by
  rw [ii_idx (by omega) (by omega)]
  have : (0 : Int32) = ii 0 := rfl
  rw [this, ii_lt (by omega) (by omega) (by omega) (by omega)]
  omega
theorem aI_M {c t n : Nat} {F : Int32 → HP → RS} {I : Mem} {J : Nat → Int64} {z : Int} (h : pA c t n = true) (h0 : 0 ≤ z) (h2 : z < n) : aI c t (ii z) F (M I J) = F (I c z.toNat) (M I J) := by
  obtain ⟨a, b, d⟩ := pA_use h I J
  unfold aI
  simp only [a]
  rw [if_neg (ok_idx h0 h2 d), ii_idx (by omega) (by omega)]
theorem sI_M {c t n : Nat} {v : Int32} {F : HP → RS} {I : Mem} {J : Nat → Int64} {z : Int} (h : pA c t n = true) (h0 : 0 ≤ z) (h2 : z < n) : sI c t (ii z) v F (M I J) = F (M (st I c z.toNat v) J) := by
  obtain ⟨a, b, d⟩ := pA_use h I J
  unfold sI
  simp only [a]
  rw [if_neg (ok_idx h0 h2 d), ii_idx (by omega) (by omega), st_eq, M_sa, b]
  rfl
theorem aLI_M {c t n : Nat} {F : Int32 → HP → RS} {I : Mem} {J : Nat → Int64} (h : pA c t n = true) : aLI c t F (M I J) = F (ii n) (M I J) := by
  obtain ⟨a, b, d⟩ := pA_use h I J
  unfold aLI
  simp only [a]
  rw [ofNat_ii]
theorem aR_M {c t n d : Nat} {F : Nat → HP → RS} {I : Mem} {J : Nat → Int64} {z : Int} (h : pQ c t n = true) (h0 : 0 ≤ z) (h2 : z < n) (hd : qf c z.toNat = some d) : aR c t (ii z) F (M I J) = F d (M I J) := by
  obtain ⟨a, b⟩ := pQ_use h I J
  unfold aR
  simp only [a]
  rw [if_neg (ok_idx h0 h2 b), ii_idx (by omega) (by omega), hd]
theorem aLQ_M {c t n : Nat} {F : Int32 → HP → RS} {I : Mem} {J : Nat → Int64} (h : pQ c t n = true) : aLQ c t F (M I J) = F (ii n) (M I J) := by
  obtain ⟨a, b⟩ := pQ_use h I J
  unfold aLQ
  simp only [a]
  rw [ofNat_ii]
theorem cpI_M {c0 c1 n0 n1 : Nat} {sp dp n : Int} {F : HP → RS} {I : Mem} {J : Nat → Int64} (h : pA c0 0 n0 = true) (h' : pA c1 0 n1 = true) (h0 : 0 ≤ sp) (h2 : 0 ≤ dp) (h3 : 0 ≤ n) (h4 : sp + n ≤ n0) (h5 : dp + n ≤ n1) : cpI c0 (ii sp) c1 (ii dp) (ii n) F (M I J) = F (M (sa I c1 (va_cpy (I c0) (I c1) sp.toNat dp.toNat n.toNat)) J) := by
  obtain ⟨a, b, d⟩ := pA_use h I J
  obtain ⟨a', b', d'⟩ := pA_use h' I J
  have z0 : (0 : Int32) = ii 0 := rfl
  have e1 := ii_idx (show -2147483648 ≤ sp by omega) (show sp < 2147483648 by omega)
  have e2 := ii_idx (show -2147483648 ≤ dp by omega) (show dp < 2147483648 by omega)
  have e3 := ii_idx (show -2147483648 ≤ n by omega) (show n < 2147483648 by omega)
  have ng : ¬ (ii sp < 0 ∨ ii dp < 0 ∨ ii n < 0 ∨ n0 < (ii sp).toNatClampNeg + (ii n).toNatClampNeg ∨ n1 < (ii dp).toNatClampNeg + (ii n).toNatClampNeg) := by
    rw [z0, ii_lt (by omega) (by omega) (by omega) (by omega), ii_lt (by omega) (by omega) (by omega) (by omega), ii_lt (by omega) (by omega) (by omega) (by omega), e1, e2, e3]
    omega
  unfold cpI
  simp only [a, a']
  rw [if_neg ng, e1, e2, e3, M_sa, b']
  rfl
def wp (f : HP → RS) (Q : Option Value → HP → Prop) (x : HP) : Prop := ∃ v y, f x = some (v, y) ∧ Q v y
theorem wp_of {f g : HP → RS} {x y : HP} {Q : Option Value → HP → Prop} (h : f x = g y) : wp f Q x = wp g Q y := by unfold wp; rw [h]
theorem wp_cG {g : HP → RS} {F : Option Value → HP → RS} {Q : Option Value → HP → Prop} {x : HP} : wp (cG g F) Q x = wp g (fun v y => wp (F v) Q y) x := by
  unfold wp cG
  refine propext ⟨?_, ?_⟩
  · rintro ⟨v, y, h, q⟩
    cases hg : g x with
    | none => rw [hg] at h; cases h
    | some r => rw [hg] at h; exact ⟨r.1, r.2, rfl, v, y, h, q⟩
  · rintro ⟨v, y, h, w, z, h2, q⟩
    exact ⟨w, z, by rw [h]; exact h2, q⟩
theorem wp_mono {f : HP → RS} {Q Q' : Option Value → HP → Prop} {x : HP} (h : wp f Q x) (k : ∀ v y, Q v y → Q' v y) : wp f Q' x := by
  obtain ⟨v, y, a, b⟩ := h
  exact ⟨v, y, a, k v y b⟩
theorem wp_rt {v : Option Value} {Q : Option Value → HP → Prop} {x : HP} : wp (rt v) Q x = Q v x := by
  unfold wp rt
  refine propext ⟨?_, fun h => ⟨v, x, rfl, h⟩⟩
  rintro ⟨w, y, h, q⟩
  cases h
  exact q
theorem wp_ite {p : Prop} [Decidable p] {A B : HP → RS} {Q : Option Value → HP → Prop} {x : HP} : wp (iteT p A B) Q x = if p then wp A Q x else wp B Q x := by
  unfold iteT wp
  split <;> rfl
theorem wp_toI {F : Int32 → HP → RS} {r : Int32} {Q : Option Value → HP → Prop} {x : HP} : wp (toI F (some (.int r))) Q x = wp (F r) Q x := rfl
theorem wp_toJ {F : Int64 → HP → RS} {r : Int64} {Q : Option Value → HP → Prop} {x : HP} : wp (toJ F (some (.long r))) Q x = wp (F r) Q x := rfl
theorem wp_toV {F : HP → RS} {Q : Option Value → HP → Prop} {x : HP} : wp (toV F none) Q x = wp F Q x := rfl
theorem wp_toQ {F : Option Nat → HP → RS} {r : Nat} {Q : Option Value → HP → Prop} {x : HP} : wp (toQ F (some (va_rf (some r)))) Q x = wp (F (some r)) Q x := rfl
theorem wp_toQn {F : Option Nat → HP → RS} {Q : Option Value → HP → Prop} {x : HP} : wp (toQ F (some (va_rf none))) Q x = wp (F none) Q x := rfl
theorem wp_toR {F : Nat → HP → RS} {r : Nat} {Q : Option Value → HP → Prop} {x : HP} : wp (toR F (some (.ref r))) Q x = wp (F r) Q x := rfl
theorem wp_oN {A : HP → RS} {B : Nat → HP → RS} {r : Nat} {Q : Option Value → HP → Prop} {x : HP} : wp (oN (some r) A B) Q x = wp (B r) Q x := rfl
theorem wp_oNn {A : HP → RS} {B : Nat → HP → RS} {Q : Option Value → HP → Prop} {x : HP} : wp (oN none A B) Q x = wp A Q x := rfl
theorem wp_ltI {F : Int32 → HP → RS} {r : Int32} {Q : Option Value → HP → Prop} {x : HP} : wp (ltI r F) Q x = wp (F r) Q x := rfl
theorem wp_ltJ {F : Int64 → HP → RS} {r : Int64} {Q : Option Value → HP → Prop} {x : HP} : wp (ltJ r F) Q x = wp (F r) Q x := rfl
theorem wp_bit {v : Int32} {F : HP → RS} {Q : Option Value → HP → Prop} {x : HP} (h : v = 0 ∨ v = 1) : wp (bitT v F) Q x = wp F Q x := by unfold wp bitT; simp only [if_pos h]
theorem wp_bit0 {F : HP → RS} {Q : Option Value → HP → Prop} {x : HP} : wp (bitT (ii 0) F) Q x = wp F Q x := wp_bit (Or.inl rfl)
theorem wp_bit1 {F : HP → RS} {Q : Option Value → HP → Prop} {x : HP} : wp (bitT (ii 1) F) Q x = wp F Q x := wp_bit (Or.inr rfl)
theorem wp_dv {v : Int} {F : HP → RS} {Q : Option Value → HP → Prop} {x : HP} (h : v ≠ 0) (h1 : -2147483648 ≤ v) (h2 : v < 2147483648) : wp (dvT (ii v) F) Q x = wp F Q x := by
  unfold wp dvT
  have e : (0 : Int32) = ii 0 := rfl
  have : ¬ (ii v = 0) := by rw [e, ii_inj h1 h2 (by omega) (by omega)]; exact h
  simp only [if_neg this]
theorem wp_dvl {v : Int64} {F : HP → RS} {Q : Option Value → HP → Prop} {x : HP} (h : v ≠ 0) : wp (dvTl v F) Q x = wp F Q x := by unfold wp dvTl; simp only [if_neg h]
theorem wp_sw {v : Int32} {k : Int32} {A d : HP → RS} {l : List (Int32 × (HP → RS))} {Q : Option Value → HP → Prop} {x : HP} : wp (swT v ((k, A) :: l) d) Q x = if v = k then wp A Q x else wp (swT v l d) Q x := wp_ite
theorem wp_swn {v : Int32} {d : HP → RS} {Q : Option Value → HP → Prop} {x : HP} : wp (swT v [] d) Q x = wp d Q x := rfl
theorem wp_tb {n : Nat} {f : Nat → Int32} {z : Int} {F : Int32 → HP → RS} {Q : Option Value → HP → Prop} {x : HP} (h : 0 ≤ z) (h2 : z < n) (hn : n ≤ 1000) : wp (tbT n f (ii z) F) Q x = wp (F (f z.toNat)) Q x := by
  unfold wp tbT
  simp only [if_neg (ok_idx h h2 hn)]
  rw [ii_idx (show -2147483648 ≤ z by omega) (show z < 2147483648 by omega)]
theorem wp_sc {n : Nat} {xs : Nat → Int32} {z : Int} {F : Int32 → HP → RS} {Q : Option Value → HP → Prop} {x : HP} (h : 0 ≤ z) (h2 : z < n) (hn : n ≤ 3072) : wp (scT n xs (ii z) F) Q x = wp (F (xs z.toNat)) Q x := by
  unfold wp scT
  have : ¬ (ii z < 0 ∨ n ≤ (ii z).toNatClampNeg) := by
    rw [ii_idx (by omega) (by omega)]
    have : (0 : Int32) = ii 0 := rfl
    rw [this, ii_lt (by omega) (by omega) (by omega) (by omega)]
    omega
  simp only [if_neg this]
  rw [ii_idx (show -2147483648 ≤ z by omega) (show z < 2147483648 by omega)]
theorem wp_sl {n : Nat} {F : Int32 → HP → RS} {Q : Option Value → HP → Prop} {x : HP} : wp (slT n F) Q x = wp (F (ii n)) Q x := by
  unfold slT; rw [ofNat_ii]
theorem wp_ex {c : Nat} {F : HP → RS} {Q : Option Value → HP → Prop} {x : HP} (h : 1002 ≤ c ∧ c < 1005) : wp (exT c F) Q x = wp F Q x := by unfold wp exT; simp only [if_pos h]
theorem wp_bL {c : Nat} {F : Int32 → HP → RS} {Q : Option Value → HP → Prop} {x : HP} (h : 1005 ≤ c ∧ c < 1008) : wp (bL c F) Q x = wp (F (ii (bLen c))) Q x := by unfold wp bL; simp only [if_pos h, ofNat_ii]
theorem wp_bA {c : Nat} {z : Int} {F : Int32 → HP → RS} {Q : Option Value → HP → Prop} {x : HP} (h : 1005 ≤ c ∧ c < 1008) (h0 : 0 ≤ z) (h2 : z < bLen c) (h3 : bLen c ≤ 1000) : wp (bA c (ii z) F) Q x = wp (F (bByt c z.toNat)) Q x := by
  unfold wp bA
  simp only [if_pos (And.intro h (ok_idx h0 h2 h3))]
  rw [ii_idx (show -2147483648 ≤ z by omega) (show z < 2147483648 by omega)]
theorem wp_ob {c ci : Nat} {F : HP → RS} {I : Mem} {J : Nat → Int64} {Q : Option Value → HP → Prop} (h : pO c ci = true) : wp (obT c ci F) Q (M I J) = wp F Q (M I J) := wp_of (obT_M h)
theorem wp_rI {c ci k : Nat} {F : Int32 → HP → RS} {I : Mem} {J : Nat → Int64} {Q : Option Value → HP → Prop} (h : pI c ci k = true) : wp (rI c ci k F) Q (M I J) = wp (F (I c k)) Q (M I J) := wp_of (rI_M h)
theorem wp_rJ {c ci k : Nat} {F : Int64 → HP → RS} {I : Mem} {J : Nat → Int64} {Q : Option Value → HP → Prop} (h : pJ c ci k = true) : wp (rJ c ci k F) Q (M I J) = wp (F (J k)) Q (M I J) := wp_of (rJ_M h)
theorem wp_rR {c ci k d : Nat} {F : Nat → HP → RS} {I : Mem} {J : Nat → Int64} {Q : Option Value → HP → Prop} (h : pR c ci k d = true) : wp (rR c ci k F) Q (M I J) = wp (F d) Q (M I J) := wp_of (rR_M h)
theorem wp_rN {c ci k : Nat} {F : Nat → HP → RS} {I : Mem} {J : Nat → Int64} {Q : Option Value → HP → Prop} (h : pN c ci k = true) : wp (rR c ci k F) Q (M I J) = wp (F (I c k).toNatClampNeg) Q (M I J) := wp_of (rR_N h)
theorem wp_wN {c ci k d : Nat} {F : HP → RS} {I : Mem} {J : Nat → Int64} {Q : Option Value → HP → Prop} (h : pN c ci k = true) (hd : d < 2000) : wp (wF c ci k (.ref d) F) Q (M I J) = wp F Q (M (st I c k (ii d)) J) := wp_of (wF_N h hd)
theorem wp_wI {c ci k : Nat} {v : Int32} {F : HP → RS} {I : Mem} {J : Nat → Int64} {Q : Option Value → HP → Prop} (h : pI c ci k = true) : wp (wF c ci k (.int v) F) Q (M I J) = wp F Q (M (st I c k v) J) := wp_of (wF_M h)
theorem wp_wJ {ci k : Nat} {v : Int64} {F : HP → RS} {I : Mem} {J : Nat → Int64} {Q : Option Value → HP → Prop} (h : pJ 75 ci k = true) : wp (wF 75 ci k (.long v) F) Q (M I J) = wp F Q (M I (sj J k v)) := wp_of (wF_J h rfl)
theorem wp_aI {c t n : Nat} {F : Int32 → HP → RS} {I : Mem} {J : Nat → Int64} {Q : Option Value → HP → Prop} {z : Int} (h : pA c t n = true) (h0 : 0 ≤ z) (h2 : z < n) : wp (aI c t (ii z) F) Q (M I J) = wp (F (I c z.toNat)) Q (M I J) := wp_of (aI_M h h0 h2)
theorem wp_sI {c t n : Nat} {v : Int32} {F : HP → RS} {I : Mem} {J : Nat → Int64} {Q : Option Value → HP → Prop} {z : Int} (h : pA c t n = true) (h0 : 0 ≤ z) (h2 : z < n) : wp (sI c t (ii z) v F) Q (M I J) = wp F Q (M (st I c z.toNat v) J) := wp_of (sI_M h h0 h2)
theorem wp_aL {c t n : Nat} {F : Int32 → HP → RS} {I : Mem} {J : Nat → Int64} {Q : Option Value → HP → Prop} (h : pA c t n = true) : wp (aLI c t F) Q (M I J) = wp (F (ii n)) Q (M I J) := wp_of (aLI_M h)
theorem wp_aR {c t n d : Nat} {F : Nat → HP → RS} {I : Mem} {J : Nat → Int64} {Q : Option Value → HP → Prop} {z : Int} (h : pQ c t n = true) (h0 : 0 ≤ z) (h2 : z < n) (hd : qf c z.toNat = some d) : wp (aR c t (ii z) F) Q (M I J) = wp (F d) Q (M I J) := wp_of (aR_M h h0 h2 hd)
theorem wp_aLQ {c t n : Nat} {F : Int32 → HP → RS} {I : Mem} {J : Nat → Int64} {Q : Option Value → HP → Prop} (h : pQ c t n = true) : wp (aLQ c t F) Q (M I J) = wp (F (ii n)) Q (M I J) := wp_of (aLQ_M h)
theorem wp_cp {c0 c1 n0 n1 : Nat} {sp dp n : Int} {F : HP → RS} {I : Mem} {J : Nat → Int64} {Q : Option Value → HP → Prop} (h : pA c0 0 n0 = true) (h' : pA c1 0 n1 = true) (h0 : 0 ≤ sp) (h2 : 0 ≤ dp) (h3 : 0 ≤ n) (h4 : sp + n ≤ n0) (h5 : dp + n ≤ n1) : wp (cpI c0 (ii sp) c1 (ii dp) (ii n) F) Q (M I J) = wp F Q (M (sa I c1 (va_cpy (I c0) (I c1) sp.toNat dp.toNat n.toNat)) J) := wp_of (cpI_M h h' h0 h2 h3 h4 h5)
theorem wp_loop {P : Type} {b : (P → HP → RS) → P → HP → RS} {Q : Option Value → HP → Prop} (R : Nat → P → Mem → (Nat → Int64) → Prop)
    (hs : ∀ n q I J, R n q I J → ∀ K, (∀ m q' I' J', m < n → R m q' I' J' → wp (K q') Q (M I' J')) → wp (b K q) Q (M I J)) {n : Nat} {q : P} {I : Mem} {J : Nat → Int64} (h : R n q I J) (hn : n < 4096) : wp (loopT b q) Q (M I J) := by
  have key : ∀ fuel n q I J, n < fuel → R n q I J → wp (loopN b fuel q) Q (M I J) := by
    intro fuel
    induction fuel with
    | zero => intro n q I J h; omega
    | succ k ih =>
      intro n q I J hk hr
      exact hs n q I J hr (loopN b k) (fun m q' I' J' hm hr' => ih m q' I' J' (by omega) hr')
  exact key 4096 n q I J hn h
theorem st_at {I : Mem} {c k c' k' : Nat} {v : Int32} : st I c k v c' k' = if c' = c ∧ k' = k then v else I c' k' := rfl
theorem sa_at {I : Mem} {c c' k' : Nat} {f : Nat → Int32} : sa I c f c' k' = if c' = c then f k' else I c' k' := by unfold sa; split <;> rfl
theorem cpy_at {f g : Nat → Int32} {sp dp n k : Nat} : va_cpy f g sp dp n k = if dp ≤ k ∧ k < dp + n then f (sp + (k - dp)) else g k := rfl
def Fr (X : Nat → Nat → Bool) (I I' : Mem) : Prop := ∀ c k, X c k = false → I' c k = I c k
theorem Fr.refl {X : Nat → Nat → Bool} {I : Mem} : Fr X I I := fun _ _ _ => rfl
theorem Fr.trans {X : Nat → Nat → Bool} {I I' I'' : Mem} (h : Fr X I I') (h2 : Fr X I' I'') : Fr X I I'' := fun c k hx => (h2 c k hx).trans (h c k hx)
theorem Fr.mono {X Y : Nat → Nat → Bool} {I I' : Mem} (h : Fr X I I') (hm : ∀ c k, Y c k = false → X c k = false) : Fr Y I I' := fun c k hx => h c k (hm c k hx)
theorem ii_mn {a b : Int} (h : -2147483648 ≤ a) (h2 : a < 2147483648) (h3 : -2147483648 ≤ b) (h4 : b < 2147483648) : mnI (ii a) (ii b) = ii (if b < a then b else a) := by
  unfold mnI
  simp only [ii_lt h3 h4 h h2]
  split <;> rfl
theorem ii_mx {a b : Int} (h : -2147483648 ≤ a) (h2 : a < 2147483648) (h3 : -2147483648 ≤ b) (h4 : b < 2147483648) : mxI (ii a) (ii b) = ii (if a < b then b else a) := by
  unfold mxI
  simp only [ii_lt h h2 h3 h4]
  split <;> rfl
theorem ii_div10 {a : Nat} (h2 : a < 2147483648) (k : Nat) (hk : k < 1000) : ii a / ii k = ii ((a / k : Nat) : Int) := by
  rw [ii_div (by omega) (by omega) (by omega) (by omega)]
  rfl
def hpc (c : Nat) : Bool := pI c 3 1 && pI c 3 2 && pR c 3 0 (c + 1) && pA (c + 1) 0 24
def shc (c : Nat) : Bool := pI c 5 1 && pI c 5 2 && pR c 5 0 (c + 1) && pA (c + 1) 0 24
def txc (c : Nat) : Bool := pI c 6 2 && pR c 6 0 (c + 1) && pR c 6 1 (c + 2) && pA (c + 1) 0 60 && pA (c + 2) 0 60
theorem pI_O {c ci k : Nat} (h : pI c ci k = true) : pO c ci = true := by
  unfold pI at h
  simp only [Bool.and_eq_true] at h
  exact h.1.1
theorem hpc_use {c : Nat} (h : hpc c = true) : pI c 3 1 = true ∧ pI c 3 2 = true ∧ pR c 3 0 (c + 1) = true ∧ pA (c + 1) 0 24 = true := by
  unfold hpc at h
  simp only [Bool.and_eq_true] at h
  exact ⟨h.1.1.1, h.1.1.2, h.1.2, h.2⟩
theorem shc_use {c : Nat} (h : shc c = true) : pI c 5 1 = true ∧ pI c 5 2 = true ∧ pR c 5 0 (c + 1) = true ∧ pA (c + 1) 0 24 = true := by
  unfold shc at h
  simp only [Bool.and_eq_true] at h
  exact ⟨h.1.1.1, h.1.1.2, h.1.2, h.2⟩
theorem txc_use {c : Nat} (h : txc c = true) : pI c 6 2 = true ∧ pR c 6 0 (c + 1) = true ∧ pR c 6 1 (c + 2) = true ∧ pA (c + 1) 0 60 = true ∧ pA (c + 2) 0 60 = true := by
  unfold txc at h
  simp only [Bool.and_eq_true] at h
  exact ⟨h.1.1.1.1, h.1.1.1.2, h.1.1.2, h.1.2, h.2⟩
def inb (i : Int32) (n : Nat) : Prop := 0 ≤ i.toInt ∧ i.toInt < n
def ix (i : Int32) : Nat := i.toInt.toNat
theorem inb_ii {z : Int} {n : Nat} (h : -2147483648 ≤ z) (h2 : z < 2147483648) : inb (ii z) n = (0 ≤ z ∧ z < n) := by unfold inb; rw [ii_toInt h h2]
theorem ix_ii {z : Int} (h : -2147483648 ≤ z) (h2 : z < 2147483648) : ix (ii z) = z.toNat := by unfold ix; rw [ii_toInt h h2]
theorem wx_aI {c t n : Nat} {F : Int32 → HP → RS} {I : Mem} {J : Nat → Int64} {Q : Option Value → HP → Prop} {i : Int32} (h : pA c t n = true) (h0 : inb i n) : wp (aI c t i F) Q (M I J) = wp (F (I c (ix i))) Q (M I J) := by
  have e := wp_aI (F := F) (I := I) (J := J) (Q := Q) h h0.1 h0.2
  rw [ii_of] at e
  exact e
theorem wx_sI {c t n : Nat} {F : HP → RS} {I : Mem} {J : Nat → Int64} {Q : Option Value → HP → Prop} {i v : Int32} (h : pA c t n = true) (h0 : inb i n) : wp (sI c t i v F) Q (M I J) = wp F Q (M (st I c (ix i) v) J) := by
  have e := wp_sI (v := v) (F := F) (I := I) (J := J) (Q := Q) h h0.1 h0.2
  rw [ii_of] at e
  exact e
theorem wx_aR {c t n : Nat} {d : Nat → Nat} {F : Nat → HP → RS} {I : Mem} {J : Nat → Int64} {Q : Option Value → HP → Prop} {i : Int32} (h : pQ c t n = true) (h0 : inb i n) (hd : ∀ k, k < n → qf c k = some (d k)) : wp (aR c t i F) Q (M I J) = wp (F (d (ix i))) Q (M I J) := by
  have e := wp_aR (F := F) (I := I) (J := J) (Q := Q) h h0.1 h0.2 (hd _ (by have := h0.1; have := h0.2; omega))
  rw [ii_of] at e
  exact e
theorem wx_tb {n : Nat} {f : Nat → Int32} {i : Int32} {F : Int32 → HP → RS} {Q : Option Value → HP → Prop} {x : HP} (h : inb i n) (hn : n ≤ 1000) : wp (tbT n f i F) Q x = wp (F (f (ix i))) Q x := by
  have e := wp_tb (f := f) (F := F) (Q := Q) (x := x) h.1 h.2 hn
  rw [ii_of] at e
  exact e
theorem wx_sc {n : Nat} {xs : Nat → Int32} {i : Int32} {F : Int32 → HP → RS} {Q : Option Value → HP → Prop} {x : HP} (h : inb i n) (hn : n ≤ 3072) : wp (scT n xs i F) Q x = wp (F (xs (ix i))) Q x := by
  have e := wp_sc (xs := xs) (F := F) (Q := Q) (x := x) h.1 h.2 hn
  rw [ii_of] at e
  exact e
theorem wx_bA {c : Nat} {i : Int32} {F : Int32 → HP → RS} {Q : Option Value → HP → Prop} {x : HP} (h : 1005 ≤ c ∧ c < 1008) (h0 : inb i (bLen c)) (h3 : bLen c ≤ 1000) : wp (bA c i F) Q x = wp (F (bByt c (ix i))) Q x := by
  have e := wp_bA (F := F) (Q := Q) (x := x) h h0.1 h0.2 h3
  rw [ii_of] at e
  exact e
def cin (sp dp n : Int32) (n0 n1 : Nat) : Prop := 0 ≤ sp.toInt ∧ 0 ≤ dp.toInt ∧ 0 ≤ n.toInt ∧ sp.toInt + n.toInt ≤ n0 ∧ dp.toInt + n.toInt ≤ n1
theorem cin_ii {a b c : Int} {n0 n1 : Nat} (h : -2147483648 ≤ a) (h2 : a < 2147483648) (h' : -2147483648 ≤ b) (h2' : b < 2147483648) (h'' : -2147483648 ≤ c) (h2'' : c < 2147483648) : cin (ii a) (ii b) (ii c) n0 n1 = (0 ≤ a ∧ 0 ≤ b ∧ 0 ≤ c ∧ a + c ≤ n0 ∧ b + c ≤ n1) := by unfold cin; rw [ii_toInt h h2, ii_toInt h' h2', ii_toInt h'' h2'']
theorem wx_cp {c0 c1 : Nat} (n0 n1 : Nat) {sp dp n : Int32} {F : HP → RS} {I : Mem} {J : Nat → Int64} {Q : Option Value → HP → Prop} (h : pA c0 0 n0 = true) (h' : pA c1 0 n1 = true) (hc : cin sp dp n n0 n1) : wp (cpI c0 sp c1 dp n F) Q (M I J) = wp F Q (M (sa I c1 (va_cpy (I c0) (I c1) (ix sp) (ix dp) (ix n))) J) := by
  obtain ⟨a, b, d, e, g⟩ := hc
  have e := wp_cp (F := F) (I := I) (J := J) (Q := Q) h h' a b d e g
  rw [ii_of, ii_of, ii_of] at e
  exact e
theorem wx_dv {v : Int32} {F : HP → RS} {Q : Option Value → HP → Prop} {x : HP} (h : ¬ v = ii 0) : wp (dvT v F) Q x = wp F Q x := by
  unfold wp dvT
  have : ¬ (v = 0) := h
  simp only [if_neg this]
theorem wp_itep {p : Prop} [Decidable p] {A B : HP → RS} {Q : Option Value → HP → Prop} {x : HP} (h : p) : wp (iteT p A B) Q x = wp A Q x := by rw [wp_ite, if_pos h]
theorem wp_iten {p : Prop} [Decidable p] {A B : HP → RS} {Q : Option Value → HP → Prop} {x : HP} (h : ¬ p) : wp (iteT p A B) Q x = wp B Q x := by rw [wp_ite, if_neg h]
theorem wp_swp {v : Int32} {k : Int32} {A d : HP → RS} {l : List (Int32 × (HP → RS))} {Q : Option Value → HP → Prop} {x : HP} (h : v = k) : wp (swT v ((k, A) :: l) d) Q x = wp A Q x := wp_itep h
theorem wp_swd {v : Int32} {k : Int32} {A d : HP → RS} {l : List (Int32 × (HP → RS))} {Q : Option Value → HP → Prop} {x : HP} (h : ¬ v = k) : wp (swT v ((k, A) :: l) d) Q x = wp (swT v l d) Q x := wp_iten h
theorem eq_ii {a b : Int} (h : a = b) : ii a = ii b := by rw [h]
theorem tn_a {a b : Int} (h : 0 ≤ a) (h2 : 0 ≤ b) : (a + b).toNat = a.toNat + b.toNat := by omega
theorem tn_s {a b : Int} (h2 : 0 ≤ b) : (a - b).toNat = a.toNat - b.toNat := by omega
theorem tn_m {a b : Int} (h : 0 ≤ a) (h2 : 0 ≤ b) : (a * b).toNat = a.toNat * b.toNat := by
  obtain ⟨x, rfl⟩ := Int.eq_ofNat_of_zero_le h
  obtain ⟨y, rfl⟩ := Int.eq_ofNat_of_zero_le h2
  rfl
theorem stn {I : Mem} {c k c' k' : Nat} {v : Int32} (h : ¬ (c' = c ∧ k' = k)) : st I c k v c' k' = I c' k' := if_neg h
theorem sty {I : Mem} {c k c' k' : Nat} {v : Int32} (h : c' = c ∧ k' = k) : st I c k v c' k' = v := if_pos h
theorem san {I : Mem} {c c' k' : Nat} {f : Nat → Int32} (h : ¬ (c' = c)) : sa I c f c' k' = I c' k' := by rw [sa_at, if_neg h]
theorem say {I : Mem} {c c' k' : Nat} {f : Nat → Int32} (h : c' = c) : sa I c f c' k' = f k' := by rw [sa_at, if_pos h]

theorem o_0 {I : Mem} {J : Nat → Int64} {Q : Option Value → HP → Prop} {F : HP → RS} : wp (obT 0 8 F) Q (M I J) = wp F Q (M I J) := wp_ob rfl
theorem i_0_0 {I : Mem} {J : Nat → Int64} {Q : Option Value → HP → Prop} {F : Nat → HP → RS} : wp (rR 0 8 0 F) Q (M I J) = wp (F 1) Q (M I J) := wp_rR rfl
theorem i_0_1 {I : Mem} {J : Nat → Int64} {Q : Option Value → HP → Prop} {F : Nat → HP → RS} : wp (rR 0 8 1 F) Q (M I J) = wp (F 15) Q (M I J) := wp_rR rfl
theorem i_0_2 {I : Mem} {J : Nat → Int64} {Q : Option Value → HP → Prop} {F : Nat → HP → RS} : wp (rR 0 8 2 F) Q (M I J) = wp (F 29) Q (M I J) := wp_rR rfl
theorem i_0_3 {I : Mem} {J : Nat → Int64} {Q : Option Value → HP → Prop} {F : Nat → HP → RS} : wp (rR 0 8 3 F) Q (M I J) = wp (F 32) Q (M I J) := wp_rR rfl
theorem i_0_4 {I : Mem} {J : Nat → Int64} {Q : Option Value → HP → Prop} {F : Nat → HP → RS} : wp (rR 0 8 4 F) Q (M I J) = wp (F 59) Q (M I J) := wp_rR rfl
theorem i_0_5 {I : Mem} {J : Nat → Int64} {Q : Option Value → HP → Prop} {F : Nat → HP → RS} : wp (rR 0 8 5 F) Q (M I J) = wp (F 63) Q (M I J) := wp_rR rfl
theorem i_0_6 {I : Mem} {J : Nat → Int64} {Q : Option Value → HP → Prop} {F : Nat → HP → RS} : wp (rR 0 8 6 F) Q (M I J) = wp (F 65) Q (M I J) := wp_rR rfl
theorem i_0_7 {I : Mem} {J : Nat → Int64} {Q : Option Value → HP → Prop} {F : Nat → HP → RS} : wp (rR 0 8 7 F) Q (M I J) = wp (F 74) Q (M I J) := wp_rR rfl
theorem i_0_8 {I : Mem} {J : Nat → Int64} {Q : Option Value → HP → Prop} {F : Int32 → HP → RS} : wp (rI 0 8 8 F) Q (M I J) = wp (F (I 0 8)) Q (M I J) := wp_rI rfl
theorem w_0_8 {I : Mem} {J : Nat → Int64} {Q : Option Value → HP → Prop} {F : HP → RS} {v : Int32} : wp (wF 0 8 8 (.int v) F) Q (M I J) = wp F Q (M (st I 0 8 v) J) := wp_wI rfl
theorem o_1 {I : Mem} {J : Nat → Int64} {Q : Option Value → HP → Prop} {F : HP → RS} : wp (obT 1 2 F) Q (M I J) = wp F Q (M I J) := wp_ob rfl
theorem i_1_0 {I : Mem} {J : Nat → Int64} {Q : Option Value → HP → Prop} {F : Nat → HP → RS} : wp (rR 1 2 0 F) Q (M I J) = wp (F 2) Q (M I J) := wp_rR rfl
theorem i_1_1 {I : Mem} {J : Nat → Int64} {Q : Option Value → HP → Prop} {F : Nat → HP → RS} : wp (rR 1 2 1 F) Q (M I J) = wp (F 3) Q (M I J) := wp_rR rfl
theorem i_1_2 {I : Mem} {J : Nat → Int64} {Q : Option Value → HP → Prop} {F : Nat → HP → RS} : wp (rR 1 2 2 F) Q (M I J) = wp (F 5) Q (M I J) := wp_rR rfl
theorem i_1_3 {I : Mem} {J : Nat → Int64} {Q : Option Value → HP → Prop} {F : Nat → HP → RS} : wp (rR 1 2 3 F) Q (M I J) = wp (F 6) Q (M I J) := wp_rR rfl
theorem i_1_4 {I : Mem} {J : Nat → Int64} {Q : Option Value → HP → Prop} {F : Nat → HP → RS} : wp (rR 1 2 4 F) Q (M I J) = wp (F 9) Q (M I J) := wp_rR rfl
theorem i_1_5 {I : Mem} {J : Nat → Int64} {Q : Option Value → HP → Prop} {F : Nat → HP → RS} : wp (rR 1 2 5 F) Q (M I J) = wp (F 12) Q (M I J) := wp_rR rfl
theorem i_1_6 {I : Mem} {J : Nat → Int64} {Q : Option Value → HP → Prop} {F : Nat → HP → RS} : wp (rR 1 2 6 F) Q (M I J) = wp (F 13) Q (M I J) := wp_rR rfl
theorem i_1_7 {I : Mem} {J : Nat → Int64} {Q : Option Value → HP → Prop} {F : Nat → HP → RS} : wp (rR 1 2 7 F) Q (M I J) = wp (F 14) Q (M I J) := wp_rR rfl
theorem i_1_8 {I : Mem} {J : Nat → Int64} {Q : Option Value → HP → Prop} {F : Int32 → HP → RS} : wp (rI 1 2 8 F) Q (M I J) = wp (F (I 1 8)) Q (M I J) := wp_rI rfl
theorem w_1_8 {I : Mem} {J : Nat → Int64} {Q : Option Value → HP → Prop} {F : HP → RS} {v : Int32} : wp (wF 1 2 8 (.int v) F) Q (M I J) = wp F Q (M (st I 1 8 v) J) := wp_wI rfl
theorem i_1_9 {I : Mem} {J : Nat → Int64} {Q : Option Value → HP → Prop} {F : Int32 → HP → RS} : wp (rI 1 2 9 F) Q (M I J) = wp (F (I 1 9)) Q (M I J) := wp_rI rfl
theorem w_1_9 {I : Mem} {J : Nat → Int64} {Q : Option Value → HP → Prop} {F : HP → RS} {v : Int32} : wp (wF 1 2 9 (.int v) F) Q (M I J) = wp F Q (M (st I 1 9 v) J) := wp_wI rfl
theorem i_1_10 {I : Mem} {J : Nat → Int64} {Q : Option Value → HP → Prop} {F : Int32 → HP → RS} : wp (rI 1 2 10 F) Q (M I J) = wp (F (I 1 10)) Q (M I J) := wp_rI rfl
theorem w_1_10 {I : Mem} {J : Nat → Int64} {Q : Option Value → HP → Prop} {F : HP → RS} {v : Int32} : wp (wF 1 2 10 (.int v) F) Q (M I J) = wp F Q (M (st I 1 10 v) J) := wp_wI rfl
theorem i_1_11 {I : Mem} {J : Nat → Int64} {Q : Option Value → HP → Prop} {F : Int32 → HP → RS} : wp (rI 1 2 11 F) Q (M I J) = wp (F (I 1 11)) Q (M I J) := wp_rI rfl
theorem w_1_11 {I : Mem} {J : Nat → Int64} {Q : Option Value → HP → Prop} {F : HP → RS} {v : Int32} : wp (wF 1 2 11 (.int v) F) Q (M I J) = wp F Q (M (st I 1 11 v) J) := wp_wI rfl
theorem i_1_12 {I : Mem} {J : Nat → Int64} {Q : Option Value → HP → Prop} {F : Int32 → HP → RS} : wp (rI 1 2 12 F) Q (M I J) = wp (F (I 1 12)) Q (M I J) := wp_rI rfl
theorem w_1_12 {I : Mem} {J : Nat → Int64} {Q : Option Value → HP → Prop} {F : HP → RS} {v : Int32} : wp (wF 1 2 12 (.int v) F) Q (M I J) = wp F Q (M (st I 1 12 v) J) := wp_wI rfl
theorem i_1_13 {I : Mem} {J : Nat → Int64} {Q : Option Value → HP → Prop} {F : Int32 → HP → RS} : wp (rI 1 2 13 F) Q (M I J) = wp (F (I 1 13)) Q (M I J) := wp_rI rfl
theorem w_1_13 {I : Mem} {J : Nat → Int64} {Q : Option Value → HP → Prop} {F : HP → RS} {v : Int32} : wp (wF 1 2 13 (.int v) F) Q (M I J) = wp F Q (M (st I 1 13 v) J) := wp_wI rfl
theorem i_1_14 {I : Mem} {J : Nat → Int64} {Q : Option Value → HP → Prop} {F : Int32 → HP → RS} : wp (rI 1 2 14 F) Q (M I J) = wp (F (I 1 14)) Q (M I J) := wp_rI rfl
theorem w_1_14 {I : Mem} {J : Nat → Int64} {Q : Option Value → HP → Prop} {F : HP → RS} {v : Int32} : wp (wF 1 2 14 (.int v) F) Q (M I J) = wp F Q (M (st I 1 14 v) J) := wp_wI rfl
theorem i_1_15 {I : Mem} {J : Nat → Int64} {Q : Option Value → HP → Prop} {F : Int32 → HP → RS} : wp (rI 1 2 15 F) Q (M I J) = wp (F (I 1 15)) Q (M I J) := wp_rI rfl
theorem w_1_15 {I : Mem} {J : Nat → Int64} {Q : Option Value → HP → Prop} {F : HP → RS} {v : Int32} : wp (wF 1 2 15 (.int v) F) Q (M I J) = wp F Q (M (st I 1 15 v) J) := wp_wI rfl
theorem a_2 {I : Mem} {J : Nat → Int64} {Q : Option Value → HP → Prop} {F : Int32 → HP → RS} {i : Int32} (h : inb i 6) : wp (aI 2 0 i F) Q (M I J) = wp (F (I 2 (ix i))) Q (M I J) := wx_aI (t := 0) (n := 6) rfl h
theorem s_2 {I : Mem} {J : Nat → Int64} {Q : Option Value → HP → Prop} {F : HP → RS} {i : Int32} {v : Int32} (h : inb i 6) : wp (sI 2 0 i v F) Q (M I J) = wp F Q (M (st I 2 (ix i) v) J) := wx_sI (t := 0) (n := 6) rfl h
theorem l_2 {I : Mem} {J : Nat → Int64} {Q : Option Value → HP → Prop} {F : Int32 → HP → RS} : wp (aLI 2 0 F) Q (M I J) = wp (F (ii 6)) Q (M I J) := wp_aL (t := 0) (n := 6) rfl
theorem o_3 {I : Mem} {J : Nat → Int64} {Q : Option Value → HP → Prop} {F : HP → RS} : wp (obT 3 3 F) Q (M I J) = wp F Q (M I J) := wp_ob rfl
theorem i_3_0 {I : Mem} {J : Nat → Int64} {Q : Option Value → HP → Prop} {F : Nat → HP → RS} : wp (rR 3 3 0 F) Q (M I J) = wp (F 4) Q (M I J) := wp_rR rfl
theorem i_3_1 {I : Mem} {J : Nat → Int64} {Q : Option Value → HP → Prop} {F : Int32 → HP → RS} : wp (rI 3 3 1 F) Q (M I J) = wp (F (I 3 1)) Q (M I J) := wp_rI rfl
theorem w_3_1 {I : Mem} {J : Nat → Int64} {Q : Option Value → HP → Prop} {F : HP → RS} {v : Int32} : wp (wF 3 3 1 (.int v) F) Q (M I J) = wp F Q (M (st I 3 1 v) J) := wp_wI rfl
theorem i_3_2 {I : Mem} {J : Nat → Int64} {Q : Option Value → HP → Prop} {F : Int32 → HP → RS} : wp (rI 3 3 2 F) Q (M I J) = wp (F (I 3 2)) Q (M I J) := wp_rI rfl
theorem w_3_2 {I : Mem} {J : Nat → Int64} {Q : Option Value → HP → Prop} {F : HP → RS} {v : Int32} : wp (wF 3 3 2 (.int v) F) Q (M I J) = wp F Q (M (st I 3 2 v) J) := wp_wI rfl
theorem a_4 {I : Mem} {J : Nat → Int64} {Q : Option Value → HP → Prop} {F : Int32 → HP → RS} {i : Int32} (h : inb i 24) : wp (aI 4 0 i F) Q (M I J) = wp (F (I 4 (ix i))) Q (M I J) := wx_aI (t := 0) (n := 24) rfl h
theorem s_4 {I : Mem} {J : Nat → Int64} {Q : Option Value → HP → Prop} {F : HP → RS} {i : Int32} {v : Int32} (h : inb i 24) : wp (sI 4 0 i v F) Q (M I J) = wp F Q (M (st I 4 (ix i) v) J) := wx_sI (t := 0) (n := 24) rfl h
theorem l_4 {I : Mem} {J : Nat → Int64} {Q : Option Value → HP → Prop} {F : Int32 → HP → RS} : wp (aLI 4 0 F) Q (M I J) = wp (F (ii 24)) Q (M I J) := wp_aL (t := 0) (n := 24) rfl
theorem a_5 {I : Mem} {J : Nat → Int64} {Q : Option Value → HP → Prop} {F : Int32 → HP → RS} {i : Int32} (h : inb i 6) : wp (aI 5 0 i F) Q (M I J) = wp (F (I 5 (ix i))) Q (M I J) := wx_aI (t := 0) (n := 6) rfl h
theorem s_5 {I : Mem} {J : Nat → Int64} {Q : Option Value → HP → Prop} {F : HP → RS} {i : Int32} {v : Int32} (h : inb i 6) : wp (sI 5 0 i v F) Q (M I J) = wp F Q (M (st I 5 (ix i) v) J) := wx_sI (t := 0) (n := 6) rfl h
theorem l_5 {I : Mem} {J : Nat → Int64} {Q : Option Value → HP → Prop} {F : Int32 → HP → RS} : wp (aLI 5 0 F) Q (M I J) = wp (F (ii 6)) Q (M I J) := wp_aL (t := 0) (n := 6) rfl
theorem o_6 {I : Mem} {J : Nat → Int64} {Q : Option Value → HP → Prop} {F : HP → RS} : wp (obT 6 6 F) Q (M I J) = wp F Q (M I J) := wp_ob rfl
theorem i_6_0 {I : Mem} {J : Nat → Int64} {Q : Option Value → HP → Prop} {F : Nat → HP → RS} : wp (rR 6 6 0 F) Q (M I J) = wp (F 7) Q (M I J) := wp_rR rfl
theorem i_6_1 {I : Mem} {J : Nat → Int64} {Q : Option Value → HP → Prop} {F : Nat → HP → RS} : wp (rR 6 6 1 F) Q (M I J) = wp (F 8) Q (M I J) := wp_rR rfl
theorem i_6_2 {I : Mem} {J : Nat → Int64} {Q : Option Value → HP → Prop} {F : Int32 → HP → RS} : wp (rI 6 6 2 F) Q (M I J) = wp (F (I 6 2)) Q (M I J) := wp_rI rfl
theorem w_6_2 {I : Mem} {J : Nat → Int64} {Q : Option Value → HP → Prop} {F : HP → RS} {v : Int32} : wp (wF 6 6 2 (.int v) F) Q (M I J) = wp F Q (M (st I 6 2 v) J) := wp_wI rfl
theorem a_7 {I : Mem} {J : Nat → Int64} {Q : Option Value → HP → Prop} {F : Int32 → HP → RS} {i : Int32} (h : inb i 60) : wp (aI 7 0 i F) Q (M I J) = wp (F (I 7 (ix i))) Q (M I J) := wx_aI (t := 0) (n := 60) rfl h
theorem s_7 {I : Mem} {J : Nat → Int64} {Q : Option Value → HP → Prop} {F : HP → RS} {i : Int32} {v : Int32} (h : inb i 60) : wp (sI 7 0 i v F) Q (M I J) = wp F Q (M (st I 7 (ix i) v) J) := wx_sI (t := 0) (n := 60) rfl h
theorem l_7 {I : Mem} {J : Nat → Int64} {Q : Option Value → HP → Prop} {F : Int32 → HP → RS} : wp (aLI 7 0 F) Q (M I J) = wp (F (ii 60)) Q (M I J) := wp_aL (t := 0) (n := 60) rfl
theorem a_8 {I : Mem} {J : Nat → Int64} {Q : Option Value → HP → Prop} {F : Int32 → HP → RS} {i : Int32} (h : inb i 60) : wp (aI 8 0 i F) Q (M I J) = wp (F (I 8 (ix i))) Q (M I J) := wx_aI (t := 0) (n := 60) rfl h
theorem s_8 {I : Mem} {J : Nat → Int64} {Q : Option Value → HP → Prop} {F : HP → RS} {i : Int32} {v : Int32} (h : inb i 60) : wp (sI 8 0 i v F) Q (M I J) = wp F Q (M (st I 8 (ix i) v) J) := wx_sI (t := 0) (n := 60) rfl h
theorem l_8 {I : Mem} {J : Nat → Int64} {Q : Option Value → HP → Prop} {F : Int32 → HP → RS} : wp (aLI 8 0 F) Q (M I J) = wp (F (ii 60)) Q (M I J) := wp_aL (t := 0) (n := 60) rfl
theorem o_9 {I : Mem} {J : Nat → Int64} {Q : Option Value → HP → Prop} {F : HP → RS} : wp (obT 9 6 F) Q (M I J) = wp F Q (M I J) := wp_ob rfl
theorem i_9_0 {I : Mem} {J : Nat → Int64} {Q : Option Value → HP → Prop} {F : Nat → HP → RS} : wp (rR 9 6 0 F) Q (M I J) = wp (F 10) Q (M I J) := wp_rR rfl
theorem i_9_1 {I : Mem} {J : Nat → Int64} {Q : Option Value → HP → Prop} {F : Nat → HP → RS} : wp (rR 9 6 1 F) Q (M I J) = wp (F 11) Q (M I J) := wp_rR rfl
theorem i_9_2 {I : Mem} {J : Nat → Int64} {Q : Option Value → HP → Prop} {F : Int32 → HP → RS} : wp (rI 9 6 2 F) Q (M I J) = wp (F (I 9 2)) Q (M I J) := wp_rI rfl
theorem w_9_2 {I : Mem} {J : Nat → Int64} {Q : Option Value → HP → Prop} {F : HP → RS} {v : Int32} : wp (wF 9 6 2 (.int v) F) Q (M I J) = wp F Q (M (st I 9 2 v) J) := wp_wI rfl
theorem a_10 {I : Mem} {J : Nat → Int64} {Q : Option Value → HP → Prop} {F : Int32 → HP → RS} {i : Int32} (h : inb i 60) : wp (aI 10 0 i F) Q (M I J) = wp (F (I 10 (ix i))) Q (M I J) := wx_aI (t := 0) (n := 60) rfl h
theorem s_10 {I : Mem} {J : Nat → Int64} {Q : Option Value → HP → Prop} {F : HP → RS} {i : Int32} {v : Int32} (h : inb i 60) : wp (sI 10 0 i v F) Q (M I J) = wp F Q (M (st I 10 (ix i) v) J) := wx_sI (t := 0) (n := 60) rfl h
theorem l_10 {I : Mem} {J : Nat → Int64} {Q : Option Value → HP → Prop} {F : Int32 → HP → RS} : wp (aLI 10 0 F) Q (M I J) = wp (F (ii 60)) Q (M I J) := wp_aL (t := 0) (n := 60) rfl
theorem a_11 {I : Mem} {J : Nat → Int64} {Q : Option Value → HP → Prop} {F : Int32 → HP → RS} {i : Int32} (h : inb i 60) : wp (aI 11 0 i F) Q (M I J) = wp (F (I 11 (ix i))) Q (M I J) := wx_aI (t := 0) (n := 60) rfl h
theorem s_11 {I : Mem} {J : Nat → Int64} {Q : Option Value → HP → Prop} {F : HP → RS} {i : Int32} {v : Int32} (h : inb i 60) : wp (sI 11 0 i v F) Q (M I J) = wp F Q (M (st I 11 (ix i) v) J) := wx_sI (t := 0) (n := 60) rfl h
theorem l_11 {I : Mem} {J : Nat → Int64} {Q : Option Value → HP → Prop} {F : Int32 → HP → RS} : wp (aLI 11 0 F) Q (M I J) = wp (F (ii 60)) Q (M I J) := wp_aL (t := 0) (n := 60) rfl
theorem a_12 {I : Mem} {J : Nat → Int64} {Q : Option Value → HP → Prop} {F : Int32 → HP → RS} {i : Int32} (h : inb i 36) : wp (aI 12 0 i F) Q (M I J) = wp (F (I 12 (ix i))) Q (M I J) := wx_aI (t := 0) (n := 36) rfl h
theorem s_12 {I : Mem} {J : Nat → Int64} {Q : Option Value → HP → Prop} {F : HP → RS} {i : Int32} {v : Int32} (h : inb i 36) : wp (sI 12 0 i v F) Q (M I J) = wp F Q (M (st I 12 (ix i) v) J) := wx_sI (t := 0) (n := 36) rfl h
theorem l_12 {I : Mem} {J : Nat → Int64} {Q : Option Value → HP → Prop} {F : Int32 → HP → RS} : wp (aLI 12 0 F) Q (M I J) = wp (F (ii 36)) Q (M I J) := wp_aL (t := 0) (n := 36) rfl
theorem a_13 {I : Mem} {J : Nat → Int64} {Q : Option Value → HP → Prop} {F : Int32 → HP → RS} {i : Int32} (h : inb i 60) : wp (aI 13 0 i F) Q (M I J) = wp (F (I 13 (ix i))) Q (M I J) := wx_aI (t := 0) (n := 60) rfl h
theorem s_13 {I : Mem} {J : Nat → Int64} {Q : Option Value → HP → Prop} {F : HP → RS} {i : Int32} {v : Int32} (h : inb i 60) : wp (sI 13 0 i v F) Q (M I J) = wp F Q (M (st I 13 (ix i) v) J) := wx_sI (t := 0) (n := 60) rfl h
theorem l_13 {I : Mem} {J : Nat → Int64} {Q : Option Value → HP → Prop} {F : Int32 → HP → RS} : wp (aLI 13 0 F) Q (M I J) = wp (F (ii 60)) Q (M I J) := wp_aL (t := 0) (n := 60) rfl
theorem a_14 {I : Mem} {J : Nat → Int64} {Q : Option Value → HP → Prop} {F : Int32 → HP → RS} {i : Int32} (h : inb i 24) : wp (aI 14 0 i F) Q (M I J) = wp (F (I 14 (ix i))) Q (M I J) := wx_aI (t := 0) (n := 24) rfl h
theorem s_14 {I : Mem} {J : Nat → Int64} {Q : Option Value → HP → Prop} {F : HP → RS} {i : Int32} {v : Int32} (h : inb i 24) : wp (sI 14 0 i v F) Q (M I J) = wp F Q (M (st I 14 (ix i) v) J) := wx_sI (t := 0) (n := 24) rfl h
theorem l_14 {I : Mem} {J : Nat → Int64} {Q : Option Value → HP → Prop} {F : Int32 → HP → RS} : wp (aLI 14 0 F) Q (M I J) = wp (F (ii 24)) Q (M I J) := wp_aL (t := 0) (n := 24) rfl
theorem o_15 {I : Mem} {J : Nat → Int64} {Q : Option Value → HP → Prop} {F : HP → RS} : wp (obT 15 2 F) Q (M I J) = wp F Q (M I J) := wp_ob rfl
theorem i_15_0 {I : Mem} {J : Nat → Int64} {Q : Option Value → HP → Prop} {F : Nat → HP → RS} : wp (rR 15 2 0 F) Q (M I J) = wp (F 16) Q (M I J) := wp_rR rfl
theorem i_15_1 {I : Mem} {J : Nat → Int64} {Q : Option Value → HP → Prop} {F : Nat → HP → RS} : wp (rR 15 2 1 F) Q (M I J) = wp (F 17) Q (M I J) := wp_rR rfl
theorem i_15_2 {I : Mem} {J : Nat → Int64} {Q : Option Value → HP → Prop} {F : Nat → HP → RS} : wp (rR 15 2 2 F) Q (M I J) = wp (F 19) Q (M I J) := wp_rR rfl
theorem i_15_3 {I : Mem} {J : Nat → Int64} {Q : Option Value → HP → Prop} {F : Nat → HP → RS} : wp (rR 15 2 3 F) Q (M I J) = wp (F 20) Q (M I J) := wp_rR rfl
theorem i_15_4 {I : Mem} {J : Nat → Int64} {Q : Option Value → HP → Prop} {F : Nat → HP → RS} : wp (rR 15 2 4 F) Q (M I J) = wp (F 23) Q (M I J) := wp_rR rfl
theorem i_15_5 {I : Mem} {J : Nat → Int64} {Q : Option Value → HP → Prop} {F : Nat → HP → RS} : wp (rR 15 2 5 F) Q (M I J) = wp (F 26) Q (M I J) := wp_rR rfl
theorem i_15_6 {I : Mem} {J : Nat → Int64} {Q : Option Value → HP → Prop} {F : Nat → HP → RS} : wp (rR 15 2 6 F) Q (M I J) = wp (F 27) Q (M I J) := wp_rR rfl
theorem i_15_7 {I : Mem} {J : Nat → Int64} {Q : Option Value → HP → Prop} {F : Nat → HP → RS} : wp (rR 15 2 7 F) Q (M I J) = wp (F 28) Q (M I J) := wp_rR rfl
theorem i_15_8 {I : Mem} {J : Nat → Int64} {Q : Option Value → HP → Prop} {F : Int32 → HP → RS} : wp (rI 15 2 8 F) Q (M I J) = wp (F (I 15 8)) Q (M I J) := wp_rI rfl
theorem w_15_8 {I : Mem} {J : Nat → Int64} {Q : Option Value → HP → Prop} {F : HP → RS} {v : Int32} : wp (wF 15 2 8 (.int v) F) Q (M I J) = wp F Q (M (st I 15 8 v) J) := wp_wI rfl
theorem i_15_9 {I : Mem} {J : Nat → Int64} {Q : Option Value → HP → Prop} {F : Int32 → HP → RS} : wp (rI 15 2 9 F) Q (M I J) = wp (F (I 15 9)) Q (M I J) := wp_rI rfl
theorem w_15_9 {I : Mem} {J : Nat → Int64} {Q : Option Value → HP → Prop} {F : HP → RS} {v : Int32} : wp (wF 15 2 9 (.int v) F) Q (M I J) = wp F Q (M (st I 15 9 v) J) := wp_wI rfl
theorem i_15_10 {I : Mem} {J : Nat → Int64} {Q : Option Value → HP → Prop} {F : Int32 → HP → RS} : wp (rI 15 2 10 F) Q (M I J) = wp (F (I 15 10)) Q (M I J) := wp_rI rfl
theorem w_15_10 {I : Mem} {J : Nat → Int64} {Q : Option Value → HP → Prop} {F : HP → RS} {v : Int32} : wp (wF 15 2 10 (.int v) F) Q (M I J) = wp F Q (M (st I 15 10 v) J) := wp_wI rfl
theorem i_15_11 {I : Mem} {J : Nat → Int64} {Q : Option Value → HP → Prop} {F : Int32 → HP → RS} : wp (rI 15 2 11 F) Q (M I J) = wp (F (I 15 11)) Q (M I J) := wp_rI rfl
theorem w_15_11 {I : Mem} {J : Nat → Int64} {Q : Option Value → HP → Prop} {F : HP → RS} {v : Int32} : wp (wF 15 2 11 (.int v) F) Q (M I J) = wp F Q (M (st I 15 11 v) J) := wp_wI rfl
theorem i_15_12 {I : Mem} {J : Nat → Int64} {Q : Option Value → HP → Prop} {F : Int32 → HP → RS} : wp (rI 15 2 12 F) Q (M I J) = wp (F (I 15 12)) Q (M I J) := wp_rI rfl
theorem w_15_12 {I : Mem} {J : Nat → Int64} {Q : Option Value → HP → Prop} {F : HP → RS} {v : Int32} : wp (wF 15 2 12 (.int v) F) Q (M I J) = wp F Q (M (st I 15 12 v) J) := wp_wI rfl
theorem i_15_13 {I : Mem} {J : Nat → Int64} {Q : Option Value → HP → Prop} {F : Int32 → HP → RS} : wp (rI 15 2 13 F) Q (M I J) = wp (F (I 15 13)) Q (M I J) := wp_rI rfl
theorem w_15_13 {I : Mem} {J : Nat → Int64} {Q : Option Value → HP → Prop} {F : HP → RS} {v : Int32} : wp (wF 15 2 13 (.int v) F) Q (M I J) = wp F Q (M (st I 15 13 v) J) := wp_wI rfl
theorem i_15_14 {I : Mem} {J : Nat → Int64} {Q : Option Value → HP → Prop} {F : Int32 → HP → RS} : wp (rI 15 2 14 F) Q (M I J) = wp (F (I 15 14)) Q (M I J) := wp_rI rfl
theorem w_15_14 {I : Mem} {J : Nat → Int64} {Q : Option Value → HP → Prop} {F : HP → RS} {v : Int32} : wp (wF 15 2 14 (.int v) F) Q (M I J) = wp F Q (M (st I 15 14 v) J) := wp_wI rfl
theorem i_15_15 {I : Mem} {J : Nat → Int64} {Q : Option Value → HP → Prop} {F : Int32 → HP → RS} : wp (rI 15 2 15 F) Q (M I J) = wp (F (I 15 15)) Q (M I J) := wp_rI rfl
theorem w_15_15 {I : Mem} {J : Nat → Int64} {Q : Option Value → HP → Prop} {F : HP → RS} {v : Int32} : wp (wF 15 2 15 (.int v) F) Q (M I J) = wp F Q (M (st I 15 15 v) J) := wp_wI rfl
theorem a_16 {I : Mem} {J : Nat → Int64} {Q : Option Value → HP → Prop} {F : Int32 → HP → RS} {i : Int32} (h : inb i 6) : wp (aI 16 0 i F) Q (M I J) = wp (F (I 16 (ix i))) Q (M I J) := wx_aI (t := 0) (n := 6) rfl h
theorem s_16 {I : Mem} {J : Nat → Int64} {Q : Option Value → HP → Prop} {F : HP → RS} {i : Int32} {v : Int32} (h : inb i 6) : wp (sI 16 0 i v F) Q (M I J) = wp F Q (M (st I 16 (ix i) v) J) := wx_sI (t := 0) (n := 6) rfl h
theorem l_16 {I : Mem} {J : Nat → Int64} {Q : Option Value → HP → Prop} {F : Int32 → HP → RS} : wp (aLI 16 0 F) Q (M I J) = wp (F (ii 6)) Q (M I J) := wp_aL (t := 0) (n := 6) rfl
theorem o_17 {I : Mem} {J : Nat → Int64} {Q : Option Value → HP → Prop} {F : HP → RS} : wp (obT 17 3 F) Q (M I J) = wp F Q (M I J) := wp_ob rfl
theorem i_17_0 {I : Mem} {J : Nat → Int64} {Q : Option Value → HP → Prop} {F : Nat → HP → RS} : wp (rR 17 3 0 F) Q (M I J) = wp (F 18) Q (M I J) := wp_rR rfl
theorem i_17_1 {I : Mem} {J : Nat → Int64} {Q : Option Value → HP → Prop} {F : Int32 → HP → RS} : wp (rI 17 3 1 F) Q (M I J) = wp (F (I 17 1)) Q (M I J) := wp_rI rfl
theorem w_17_1 {I : Mem} {J : Nat → Int64} {Q : Option Value → HP → Prop} {F : HP → RS} {v : Int32} : wp (wF 17 3 1 (.int v) F) Q (M I J) = wp F Q (M (st I 17 1 v) J) := wp_wI rfl
theorem i_17_2 {I : Mem} {J : Nat → Int64} {Q : Option Value → HP → Prop} {F : Int32 → HP → RS} : wp (rI 17 3 2 F) Q (M I J) = wp (F (I 17 2)) Q (M I J) := wp_rI rfl
theorem w_17_2 {I : Mem} {J : Nat → Int64} {Q : Option Value → HP → Prop} {F : HP → RS} {v : Int32} : wp (wF 17 3 2 (.int v) F) Q (M I J) = wp F Q (M (st I 17 2 v) J) := wp_wI rfl
theorem a_18 {I : Mem} {J : Nat → Int64} {Q : Option Value → HP → Prop} {F : Int32 → HP → RS} {i : Int32} (h : inb i 24) : wp (aI 18 0 i F) Q (M I J) = wp (F (I 18 (ix i))) Q (M I J) := wx_aI (t := 0) (n := 24) rfl h
theorem s_18 {I : Mem} {J : Nat → Int64} {Q : Option Value → HP → Prop} {F : HP → RS} {i : Int32} {v : Int32} (h : inb i 24) : wp (sI 18 0 i v F) Q (M I J) = wp F Q (M (st I 18 (ix i) v) J) := wx_sI (t := 0) (n := 24) rfl h
theorem l_18 {I : Mem} {J : Nat → Int64} {Q : Option Value → HP → Prop} {F : Int32 → HP → RS} : wp (aLI 18 0 F) Q (M I J) = wp (F (ii 24)) Q (M I J) := wp_aL (t := 0) (n := 24) rfl
theorem a_19 {I : Mem} {J : Nat → Int64} {Q : Option Value → HP → Prop} {F : Int32 → HP → RS} {i : Int32} (h : inb i 6) : wp (aI 19 0 i F) Q (M I J) = wp (F (I 19 (ix i))) Q (M I J) := wx_aI (t := 0) (n := 6) rfl h
theorem s_19 {I : Mem} {J : Nat → Int64} {Q : Option Value → HP → Prop} {F : HP → RS} {i : Int32} {v : Int32} (h : inb i 6) : wp (sI 19 0 i v F) Q (M I J) = wp F Q (M (st I 19 (ix i) v) J) := wx_sI (t := 0) (n := 6) rfl h
theorem l_19 {I : Mem} {J : Nat → Int64} {Q : Option Value → HP → Prop} {F : Int32 → HP → RS} : wp (aLI 19 0 F) Q (M I J) = wp (F (ii 6)) Q (M I J) := wp_aL (t := 0) (n := 6) rfl
theorem o_20 {I : Mem} {J : Nat → Int64} {Q : Option Value → HP → Prop} {F : HP → RS} : wp (obT 20 6 F) Q (M I J) = wp F Q (M I J) := wp_ob rfl
theorem i_20_0 {I : Mem} {J : Nat → Int64} {Q : Option Value → HP → Prop} {F : Nat → HP → RS} : wp (rR 20 6 0 F) Q (M I J) = wp (F 21) Q (M I J) := wp_rR rfl
theorem i_20_1 {I : Mem} {J : Nat → Int64} {Q : Option Value → HP → Prop} {F : Nat → HP → RS} : wp (rR 20 6 1 F) Q (M I J) = wp (F 22) Q (M I J) := wp_rR rfl
theorem i_20_2 {I : Mem} {J : Nat → Int64} {Q : Option Value → HP → Prop} {F : Int32 → HP → RS} : wp (rI 20 6 2 F) Q (M I J) = wp (F (I 20 2)) Q (M I J) := wp_rI rfl
theorem w_20_2 {I : Mem} {J : Nat → Int64} {Q : Option Value → HP → Prop} {F : HP → RS} {v : Int32} : wp (wF 20 6 2 (.int v) F) Q (M I J) = wp F Q (M (st I 20 2 v) J) := wp_wI rfl
theorem a_21 {I : Mem} {J : Nat → Int64} {Q : Option Value → HP → Prop} {F : Int32 → HP → RS} {i : Int32} (h : inb i 60) : wp (aI 21 0 i F) Q (M I J) = wp (F (I 21 (ix i))) Q (M I J) := wx_aI (t := 0) (n := 60) rfl h
theorem s_21 {I : Mem} {J : Nat → Int64} {Q : Option Value → HP → Prop} {F : HP → RS} {i : Int32} {v : Int32} (h : inb i 60) : wp (sI 21 0 i v F) Q (M I J) = wp F Q (M (st I 21 (ix i) v) J) := wx_sI (t := 0) (n := 60) rfl h
theorem l_21 {I : Mem} {J : Nat → Int64} {Q : Option Value → HP → Prop} {F : Int32 → HP → RS} : wp (aLI 21 0 F) Q (M I J) = wp (F (ii 60)) Q (M I J) := wp_aL (t := 0) (n := 60) rfl
theorem a_22 {I : Mem} {J : Nat → Int64} {Q : Option Value → HP → Prop} {F : Int32 → HP → RS} {i : Int32} (h : inb i 60) : wp (aI 22 0 i F) Q (M I J) = wp (F (I 22 (ix i))) Q (M I J) := wx_aI (t := 0) (n := 60) rfl h
theorem s_22 {I : Mem} {J : Nat → Int64} {Q : Option Value → HP → Prop} {F : HP → RS} {i : Int32} {v : Int32} (h : inb i 60) : wp (sI 22 0 i v F) Q (M I J) = wp F Q (M (st I 22 (ix i) v) J) := wx_sI (t := 0) (n := 60) rfl h
theorem l_22 {I : Mem} {J : Nat → Int64} {Q : Option Value → HP → Prop} {F : Int32 → HP → RS} : wp (aLI 22 0 F) Q (M I J) = wp (F (ii 60)) Q (M I J) := wp_aL (t := 0) (n := 60) rfl
theorem o_23 {I : Mem} {J : Nat → Int64} {Q : Option Value → HP → Prop} {F : HP → RS} : wp (obT 23 6 F) Q (M I J) = wp F Q (M I J) := wp_ob rfl
theorem i_23_0 {I : Mem} {J : Nat → Int64} {Q : Option Value → HP → Prop} {F : Nat → HP → RS} : wp (rR 23 6 0 F) Q (M I J) = wp (F 24) Q (M I J) := wp_rR rfl
theorem i_23_1 {I : Mem} {J : Nat → Int64} {Q : Option Value → HP → Prop} {F : Nat → HP → RS} : wp (rR 23 6 1 F) Q (M I J) = wp (F 25) Q (M I J) := wp_rR rfl
theorem i_23_2 {I : Mem} {J : Nat → Int64} {Q : Option Value → HP → Prop} {F : Int32 → HP → RS} : wp (rI 23 6 2 F) Q (M I J) = wp (F (I 23 2)) Q (M I J) := wp_rI rfl
theorem w_23_2 {I : Mem} {J : Nat → Int64} {Q : Option Value → HP → Prop} {F : HP → RS} {v : Int32} : wp (wF 23 6 2 (.int v) F) Q (M I J) = wp F Q (M (st I 23 2 v) J) := wp_wI rfl
theorem a_24 {I : Mem} {J : Nat → Int64} {Q : Option Value → HP → Prop} {F : Int32 → HP → RS} {i : Int32} (h : inb i 60) : wp (aI 24 0 i F) Q (M I J) = wp (F (I 24 (ix i))) Q (M I J) := wx_aI (t := 0) (n := 60) rfl h
theorem s_24 {I : Mem} {J : Nat → Int64} {Q : Option Value → HP → Prop} {F : HP → RS} {i : Int32} {v : Int32} (h : inb i 60) : wp (sI 24 0 i v F) Q (M I J) = wp F Q (M (st I 24 (ix i) v) J) := wx_sI (t := 0) (n := 60) rfl h
theorem l_24 {I : Mem} {J : Nat → Int64} {Q : Option Value → HP → Prop} {F : Int32 → HP → RS} : wp (aLI 24 0 F) Q (M I J) = wp (F (ii 60)) Q (M I J) := wp_aL (t := 0) (n := 60) rfl
theorem a_25 {I : Mem} {J : Nat → Int64} {Q : Option Value → HP → Prop} {F : Int32 → HP → RS} {i : Int32} (h : inb i 60) : wp (aI 25 0 i F) Q (M I J) = wp (F (I 25 (ix i))) Q (M I J) := wx_aI (t := 0) (n := 60) rfl h
theorem s_25 {I : Mem} {J : Nat → Int64} {Q : Option Value → HP → Prop} {F : HP → RS} {i : Int32} {v : Int32} (h : inb i 60) : wp (sI 25 0 i v F) Q (M I J) = wp F Q (M (st I 25 (ix i) v) J) := wx_sI (t := 0) (n := 60) rfl h
theorem l_25 {I : Mem} {J : Nat → Int64} {Q : Option Value → HP → Prop} {F : Int32 → HP → RS} : wp (aLI 25 0 F) Q (M I J) = wp (F (ii 60)) Q (M I J) := wp_aL (t := 0) (n := 60) rfl
theorem a_26 {I : Mem} {J : Nat → Int64} {Q : Option Value → HP → Prop} {F : Int32 → HP → RS} {i : Int32} (h : inb i 36) : wp (aI 26 0 i F) Q (M I J) = wp (F (I 26 (ix i))) Q (M I J) := wx_aI (t := 0) (n := 36) rfl h
theorem s_26 {I : Mem} {J : Nat → Int64} {Q : Option Value → HP → Prop} {F : HP → RS} {i : Int32} {v : Int32} (h : inb i 36) : wp (sI 26 0 i v F) Q (M I J) = wp F Q (M (st I 26 (ix i) v) J) := wx_sI (t := 0) (n := 36) rfl h
theorem l_26 {I : Mem} {J : Nat → Int64} {Q : Option Value → HP → Prop} {F : Int32 → HP → RS} : wp (aLI 26 0 F) Q (M I J) = wp (F (ii 36)) Q (M I J) := wp_aL (t := 0) (n := 36) rfl
theorem a_27 {I : Mem} {J : Nat → Int64} {Q : Option Value → HP → Prop} {F : Int32 → HP → RS} {i : Int32} (h : inb i 60) : wp (aI 27 0 i F) Q (M I J) = wp (F (I 27 (ix i))) Q (M I J) := wx_aI (t := 0) (n := 60) rfl h
theorem s_27 {I : Mem} {J : Nat → Int64} {Q : Option Value → HP → Prop} {F : HP → RS} {i : Int32} {v : Int32} (h : inb i 60) : wp (sI 27 0 i v F) Q (M I J) = wp F Q (M (st I 27 (ix i) v) J) := wx_sI (t := 0) (n := 60) rfl h
theorem l_27 {I : Mem} {J : Nat → Int64} {Q : Option Value → HP → Prop} {F : Int32 → HP → RS} : wp (aLI 27 0 F) Q (M I J) = wp (F (ii 60)) Q (M I J) := wp_aL (t := 0) (n := 60) rfl
theorem a_28 {I : Mem} {J : Nat → Int64} {Q : Option Value → HP → Prop} {F : Int32 → HP → RS} {i : Int32} (h : inb i 24) : wp (aI 28 0 i F) Q (M I J) = wp (F (I 28 (ix i))) Q (M I J) := wx_aI (t := 0) (n := 24) rfl h
theorem s_28 {I : Mem} {J : Nat → Int64} {Q : Option Value → HP → Prop} {F : HP → RS} {i : Int32} {v : Int32} (h : inb i 24) : wp (sI 28 0 i v F) Q (M I J) = wp F Q (M (st I 28 (ix i) v) J) := wx_sI (t := 0) (n := 24) rfl h
theorem l_28 {I : Mem} {J : Nat → Int64} {Q : Option Value → HP → Prop} {F : Int32 → HP → RS} : wp (aLI 28 0 F) Q (M I J) = wp (F (ii 24)) Q (M I J) := wp_aL (t := 0) (n := 24) rfl
theorem o_29 {I : Mem} {J : Nat → Int64} {Q : Option Value → HP → Prop} {F : HP → RS} : wp (obT 29 0 F) Q (M I J) = wp F Q (M I J) := wp_ob rfl
theorem i_29_0 {I : Mem} {J : Nat → Int64} {Q : Option Value → HP → Prop} {F : Nat → HP → RS} : wp (rR 29 0 0 F) Q (M I J) = wp (F 1) Q (M I J) := wp_rR rfl
theorem i_29_1 {I : Mem} {J : Nat → Int64} {Q : Option Value → HP → Prop} {F : Nat → HP → RS} : wp (rR 29 0 1 F) Q (M I J) = wp (F 30) Q (M I J) := wp_rR rfl
theorem i_29_2 {I : Mem} {J : Nat → Int64} {Q : Option Value → HP → Prop} {F : Nat → HP → RS} : wp (rR 29 0 2 F) Q (M I J) = wp (F 31) Q (M I J) := wp_rR rfl
theorem i_29_3 {I : Mem} {J : Nat → Int64} {Q : Option Value → HP → Prop} {F : Int32 → HP → RS} : wp (rI 29 0 3 F) Q (M I J) = wp (F (I 29 3)) Q (M I J) := wp_rI rfl
theorem w_29_3 {I : Mem} {J : Nat → Int64} {Q : Option Value → HP → Prop} {F : HP → RS} {v : Int32} : wp (wF 29 0 3 (.int v) F) Q (M I J) = wp F Q (M (st I 29 3 v) J) := wp_wI rfl
theorem i_29_4 {I : Mem} {J : Nat → Int64} {Q : Option Value → HP → Prop} {F : Int32 → HP → RS} : wp (rI 29 0 4 F) Q (M I J) = wp (F (I 29 4)) Q (M I J) := wp_rI rfl
theorem w_29_4 {I : Mem} {J : Nat → Int64} {Q : Option Value → HP → Prop} {F : HP → RS} {v : Int32} : wp (wF 29 0 4 (.int v) F) Q (M I J) = wp F Q (M (st I 29 4 v) J) := wp_wI rfl
theorem i_29_5 {I : Mem} {J : Nat → Int64} {Q : Option Value → HP → Prop} {F : Int32 → HP → RS} : wp (rI 29 0 5 F) Q (M I J) = wp (F (I 29 5)) Q (M I J) := wp_rI rfl
theorem w_29_5 {I : Mem} {J : Nat → Int64} {Q : Option Value → HP → Prop} {F : HP → RS} {v : Int32} : wp (wF 29 0 5 (.int v) F) Q (M I J) = wp F Q (M (st I 29 5 v) J) := wp_wI rfl
theorem i_29_6 {I : Mem} {J : Nat → Int64} {Q : Option Value → HP → Prop} {F : Int32 → HP → RS} : wp (rI 29 0 6 F) Q (M I J) = wp (F (I 29 6)) Q (M I J) := wp_rI rfl
theorem w_29_6 {I : Mem} {J : Nat → Int64} {Q : Option Value → HP → Prop} {F : HP → RS} {v : Int32} : wp (wF 29 0 6 (.int v) F) Q (M I J) = wp F Q (M (st I 29 6 v) J) := wp_wI rfl
theorem a_30 {I : Mem} {J : Nat → Int64} {Q : Option Value → HP → Prop} {F : Int32 → HP → RS} {i : Int32} (h : inb i 24) : wp (aI 30 0 i F) Q (M I J) = wp (F (I 30 (ix i))) Q (M I J) := wx_aI (t := 0) (n := 24) rfl h
theorem s_30 {I : Mem} {J : Nat → Int64} {Q : Option Value → HP → Prop} {F : HP → RS} {i : Int32} {v : Int32} (h : inb i 24) : wp (sI 30 0 i v F) Q (M I J) = wp F Q (M (st I 30 (ix i) v) J) := wx_sI (t := 0) (n := 24) rfl h
theorem l_30 {I : Mem} {J : Nat → Int64} {Q : Option Value → HP → Prop} {F : Int32 → HP → RS} : wp (aLI 30 0 F) Q (M I J) = wp (F (ii 24)) Q (M I J) := wp_aL (t := 0) (n := 24) rfl
theorem a_31 {I : Mem} {J : Nat → Int64} {Q : Option Value → HP → Prop} {F : Int32 → HP → RS} {i : Int32} (h : inb i 4) : wp (aI 31 0 i F) Q (M I J) = wp (F (I 31 (ix i))) Q (M I J) := wx_aI (t := 0) (n := 4) rfl h
theorem s_31 {I : Mem} {J : Nat → Int64} {Q : Option Value → HP → Prop} {F : HP → RS} {i : Int32} {v : Int32} (h : inb i 4) : wp (sI 31 0 i v F) Q (M I J) = wp F Q (M (st I 31 (ix i) v) J) := wx_sI (t := 0) (n := 4) rfl h
theorem l_31 {I : Mem} {J : Nat → Int64} {Q : Option Value → HP → Prop} {F : Int32 → HP → RS} : wp (aLI 31 0 F) Q (M I J) = wp (F (ii 4)) Q (M I J) := wp_aL (t := 0) (n := 4) rfl
theorem o_32 {I : Mem} {J : Nat → Int64} {Q : Option Value → HP → Prop} {F : HP → RS} : wp (obT 32 1 F) Q (M I J) = wp F Q (M I J) := wp_ob rfl
theorem i_32_0 {I : Mem} {J : Nat → Int64} {Q : Option Value → HP → Prop} {F : Nat → HP → RS} : wp (rR 32 1 0 F) Q (M I J) = wp (F 1) Q (M I J) := wp_rR rfl
theorem i_32_1 {I : Mem} {J : Nat → Int64} {Q : Option Value → HP → Prop} {F : Nat → HP → RS} : wp (rR 32 1 1 F) Q (M I J) = wp (F 29) Q (M I J) := wp_rR rfl
theorem i_32_2 {I : Mem} {J : Nat → Int64} {Q : Option Value → HP → Prop} {F : Nat → HP → RS} : wp (rR 32 1 2 F) Q (M I J) = wp (F 33) Q (M I J) := wp_rR rfl
theorem i_32_3 {I : Mem} {J : Nat → Int64} {Q : Option Value → HP → Prop} {F : Nat → HP → RS} : wp (rR 32 1 3 F) Q (M I J) = wp (F 48) Q (M I J) := wp_rR rfl
theorem i_32_4 {I : Mem} {J : Nat → Int64} {Q : Option Value → HP → Prop} {F : Nat → HP → RS} : wp (rR 32 1 4 F) Q (M I J) = wp (F 54) Q (M I J) := wp_rR rfl
theorem i_32_5 {I : Mem} {J : Nat → Int64} {Q : Option Value → HP → Prop} {F : Nat → HP → RS} : wp (rR 32 1 5 F) Q (M I J) = wp (F 55) Q (M I J) := wp_rR rfl
theorem i_32_6 {I : Mem} {J : Nat → Int64} {Q : Option Value → HP → Prop} {F : Nat → HP → RS} : wp (rR 32 1 6 F) Q (M I J) = wp (F 56) Q (M I J) := wp_rR rfl
theorem i_32_7 {I : Mem} {J : Nat → Int64} {Q : Option Value → HP → Prop} {F : Nat → HP → RS} : wp (rR 32 1 7 F) Q (M I J) = wp (F 57) Q (M I J) := wp_rR rfl
theorem i_32_8 {I : Mem} {J : Nat → Int64} {Q : Option Value → HP → Prop} {F : Nat → HP → RS} : wp (rR 32 1 8 F) Q (M I J) = wp (F 58) Q (M I J) := wp_rR rfl
theorem i_32_9 {I : Mem} {J : Nat → Int64} {Q : Option Value → HP → Prop} {F : Int32 → HP → RS} : wp (rI 32 1 9 F) Q (M I J) = wp (F (I 32 9)) Q (M I J) := wp_rI rfl
theorem w_32_9 {I : Mem} {J : Nat → Int64} {Q : Option Value → HP → Prop} {F : HP → RS} {v : Int32} : wp (wF 32 1 9 (.int v) F) Q (M I J) = wp F Q (M (st I 32 9 v) J) := wp_wI rfl
theorem i_32_10 {I : Mem} {J : Nat → Int64} {Q : Option Value → HP → Prop} {F : Int32 → HP → RS} : wp (rI 32 1 10 F) Q (M I J) = wp (F (I 32 10)) Q (M I J) := wp_rI rfl
theorem w_32_10 {I : Mem} {J : Nat → Int64} {Q : Option Value → HP → Prop} {F : HP → RS} {v : Int32} : wp (wF 32 1 10 (.int v) F) Q (M I J) = wp F Q (M (st I 32 10 v) J) := wp_wI rfl
theorem i_32_11 {I : Mem} {J : Nat → Int64} {Q : Option Value → HP → Prop} {F : Int32 → HP → RS} : wp (rI 32 1 11 F) Q (M I J) = wp (F (I 32 11)) Q (M I J) := wp_rI rfl
theorem w_32_11 {I : Mem} {J : Nat → Int64} {Q : Option Value → HP → Prop} {F : HP → RS} {v : Int32} : wp (wF 32 1 11 (.int v) F) Q (M I J) = wp F Q (M (st I 32 11 v) J) := wp_wI rfl
theorem i_32_12 {I : Mem} {J : Nat → Int64} {Q : Option Value → HP → Prop} {F : Int32 → HP → RS} : wp (rI 32 1 12 F) Q (M I J) = wp (F (I 32 12)) Q (M I J) := wp_rI rfl
theorem w_32_12 {I : Mem} {J : Nat → Int64} {Q : Option Value → HP → Prop} {F : HP → RS} {v : Int32} : wp (wF 32 1 12 (.int v) F) Q (M I J) = wp F Q (M (st I 32 12 v) J) := wp_wI rfl
theorem i_32_13 {I : Mem} {J : Nat → Int64} {Q : Option Value → HP → Prop} {F : Int32 → HP → RS} : wp (rI 32 1 13 F) Q (M I J) = wp (F (I 32 13)) Q (M I J) := wp_rI rfl
theorem w_32_13 {I : Mem} {J : Nat → Int64} {Q : Option Value → HP → Prop} {F : HP → RS} {v : Int32} : wp (wF 32 1 13 (.int v) F) Q (M I J) = wp F Q (M (st I 32 13 v) J) := wp_wI rfl
theorem o_34 {I : Mem} {J : Nat → Int64} {Q : Option Value → HP → Prop} {F : HP → RS} : wp (obT 34 3 F) Q (M I J) = wp F Q (M I J) := wp_ob rfl
theorem i_34_0 {I : Mem} {J : Nat → Int64} {Q : Option Value → HP → Prop} {F : Nat → HP → RS} : wp (rR 34 3 0 F) Q (M I J) = wp (F 35) Q (M I J) := wp_rR rfl
theorem i_34_1 {I : Mem} {J : Nat → Int64} {Q : Option Value → HP → Prop} {F : Int32 → HP → RS} : wp (rI 34 3 1 F) Q (M I J) = wp (F (I 34 1)) Q (M I J) := wp_rI rfl
theorem w_34_1 {I : Mem} {J : Nat → Int64} {Q : Option Value → HP → Prop} {F : HP → RS} {v : Int32} : wp (wF 34 3 1 (.int v) F) Q (M I J) = wp F Q (M (st I 34 1 v) J) := wp_wI rfl
theorem i_34_2 {I : Mem} {J : Nat → Int64} {Q : Option Value → HP → Prop} {F : Int32 → HP → RS} : wp (rI 34 3 2 F) Q (M I J) = wp (F (I 34 2)) Q (M I J) := wp_rI rfl
theorem w_34_2 {I : Mem} {J : Nat → Int64} {Q : Option Value → HP → Prop} {F : HP → RS} {v : Int32} : wp (wF 34 3 2 (.int v) F) Q (M I J) = wp F Q (M (st I 34 2 v) J) := wp_wI rfl
theorem a_35 {I : Mem} {J : Nat → Int64} {Q : Option Value → HP → Prop} {F : Int32 → HP → RS} {i : Int32} (h : inb i 24) : wp (aI 35 0 i F) Q (M I J) = wp (F (I 35 (ix i))) Q (M I J) := wx_aI (t := 0) (n := 24) rfl h
theorem s_35 {I : Mem} {J : Nat → Int64} {Q : Option Value → HP → Prop} {F : HP → RS} {i : Int32} {v : Int32} (h : inb i 24) : wp (sI 35 0 i v F) Q (M I J) = wp F Q (M (st I 35 (ix i) v) J) := wx_sI (t := 0) (n := 24) rfl h
theorem l_35 {I : Mem} {J : Nat → Int64} {Q : Option Value → HP → Prop} {F : Int32 → HP → RS} : wp (aLI 35 0 F) Q (M I J) = wp (F (ii 24)) Q (M I J) := wp_aL (t := 0) (n := 24) rfl
theorem o_36 {I : Mem} {J : Nat → Int64} {Q : Option Value → HP → Prop} {F : HP → RS} : wp (obT 36 3 F) Q (M I J) = wp F Q (M I J) := wp_ob rfl
theorem i_36_0 {I : Mem} {J : Nat → Int64} {Q : Option Value → HP → Prop} {F : Nat → HP → RS} : wp (rR 36 3 0 F) Q (M I J) = wp (F 37) Q (M I J) := wp_rR rfl
theorem i_36_1 {I : Mem} {J : Nat → Int64} {Q : Option Value → HP → Prop} {F : Int32 → HP → RS} : wp (rI 36 3 1 F) Q (M I J) = wp (F (I 36 1)) Q (M I J) := wp_rI rfl
theorem w_36_1 {I : Mem} {J : Nat → Int64} {Q : Option Value → HP → Prop} {F : HP → RS} {v : Int32} : wp (wF 36 3 1 (.int v) F) Q (M I J) = wp F Q (M (st I 36 1 v) J) := wp_wI rfl
theorem i_36_2 {I : Mem} {J : Nat → Int64} {Q : Option Value → HP → Prop} {F : Int32 → HP → RS} : wp (rI 36 3 2 F) Q (M I J) = wp (F (I 36 2)) Q (M I J) := wp_rI rfl
theorem w_36_2 {I : Mem} {J : Nat → Int64} {Q : Option Value → HP → Prop} {F : HP → RS} {v : Int32} : wp (wF 36 3 2 (.int v) F) Q (M I J) = wp F Q (M (st I 36 2 v) J) := wp_wI rfl
theorem a_37 {I : Mem} {J : Nat → Int64} {Q : Option Value → HP → Prop} {F : Int32 → HP → RS} {i : Int32} (h : inb i 24) : wp (aI 37 0 i F) Q (M I J) = wp (F (I 37 (ix i))) Q (M I J) := wx_aI (t := 0) (n := 24) rfl h
theorem s_37 {I : Mem} {J : Nat → Int64} {Q : Option Value → HP → Prop} {F : HP → RS} {i : Int32} {v : Int32} (h : inb i 24) : wp (sI 37 0 i v F) Q (M I J) = wp F Q (M (st I 37 (ix i) v) J) := wx_sI (t := 0) (n := 24) rfl h
theorem l_37 {I : Mem} {J : Nat → Int64} {Q : Option Value → HP → Prop} {F : Int32 → HP → RS} : wp (aLI 37 0 F) Q (M I J) = wp (F (ii 24)) Q (M I J) := wp_aL (t := 0) (n := 24) rfl
theorem o_38 {I : Mem} {J : Nat → Int64} {Q : Option Value → HP → Prop} {F : HP → RS} : wp (obT 38 3 F) Q (M I J) = wp F Q (M I J) := wp_ob rfl
theorem i_38_0 {I : Mem} {J : Nat → Int64} {Q : Option Value → HP → Prop} {F : Nat → HP → RS} : wp (rR 38 3 0 F) Q (M I J) = wp (F 39) Q (M I J) := wp_rR rfl
theorem i_38_1 {I : Mem} {J : Nat → Int64} {Q : Option Value → HP → Prop} {F : Int32 → HP → RS} : wp (rI 38 3 1 F) Q (M I J) = wp (F (I 38 1)) Q (M I J) := wp_rI rfl
theorem w_38_1 {I : Mem} {J : Nat → Int64} {Q : Option Value → HP → Prop} {F : HP → RS} {v : Int32} : wp (wF 38 3 1 (.int v) F) Q (M I J) = wp F Q (M (st I 38 1 v) J) := wp_wI rfl
theorem i_38_2 {I : Mem} {J : Nat → Int64} {Q : Option Value → HP → Prop} {F : Int32 → HP → RS} : wp (rI 38 3 2 F) Q (M I J) = wp (F (I 38 2)) Q (M I J) := wp_rI rfl
theorem w_38_2 {I : Mem} {J : Nat → Int64} {Q : Option Value → HP → Prop} {F : HP → RS} {v : Int32} : wp (wF 38 3 2 (.int v) F) Q (M I J) = wp F Q (M (st I 38 2 v) J) := wp_wI rfl
theorem a_39 {I : Mem} {J : Nat → Int64} {Q : Option Value → HP → Prop} {F : Int32 → HP → RS} {i : Int32} (h : inb i 24) : wp (aI 39 0 i F) Q (M I J) = wp (F (I 39 (ix i))) Q (M I J) := wx_aI (t := 0) (n := 24) rfl h
theorem s_39 {I : Mem} {J : Nat → Int64} {Q : Option Value → HP → Prop} {F : HP → RS} {i : Int32} {v : Int32} (h : inb i 24) : wp (sI 39 0 i v F) Q (M I J) = wp F Q (M (st I 39 (ix i) v) J) := wx_sI (t := 0) (n := 24) rfl h
theorem l_39 {I : Mem} {J : Nat → Int64} {Q : Option Value → HP → Prop} {F : Int32 → HP → RS} : wp (aLI 39 0 F) Q (M I J) = wp (F (ii 24)) Q (M I J) := wp_aL (t := 0) (n := 24) rfl
theorem o_40 {I : Mem} {J : Nat → Int64} {Q : Option Value → HP → Prop} {F : HP → RS} : wp (obT 40 3 F) Q (M I J) = wp F Q (M I J) := wp_ob rfl
theorem i_40_0 {I : Mem} {J : Nat → Int64} {Q : Option Value → HP → Prop} {F : Nat → HP → RS} : wp (rR 40 3 0 F) Q (M I J) = wp (F 41) Q (M I J) := wp_rR rfl
theorem i_40_1 {I : Mem} {J : Nat → Int64} {Q : Option Value → HP → Prop} {F : Int32 → HP → RS} : wp (rI 40 3 1 F) Q (M I J) = wp (F (I 40 1)) Q (M I J) := wp_rI rfl
theorem w_40_1 {I : Mem} {J : Nat → Int64} {Q : Option Value → HP → Prop} {F : HP → RS} {v : Int32} : wp (wF 40 3 1 (.int v) F) Q (M I J) = wp F Q (M (st I 40 1 v) J) := wp_wI rfl
theorem i_40_2 {I : Mem} {J : Nat → Int64} {Q : Option Value → HP → Prop} {F : Int32 → HP → RS} : wp (rI 40 3 2 F) Q (M I J) = wp (F (I 40 2)) Q (M I J) := wp_rI rfl
theorem w_40_2 {I : Mem} {J : Nat → Int64} {Q : Option Value → HP → Prop} {F : HP → RS} {v : Int32} : wp (wF 40 3 2 (.int v) F) Q (M I J) = wp F Q (M (st I 40 2 v) J) := wp_wI rfl
theorem a_41 {I : Mem} {J : Nat → Int64} {Q : Option Value → HP → Prop} {F : Int32 → HP → RS} {i : Int32} (h : inb i 24) : wp (aI 41 0 i F) Q (M I J) = wp (F (I 41 (ix i))) Q (M I J) := wx_aI (t := 0) (n := 24) rfl h
theorem s_41 {I : Mem} {J : Nat → Int64} {Q : Option Value → HP → Prop} {F : HP → RS} {i : Int32} {v : Int32} (h : inb i 24) : wp (sI 41 0 i v F) Q (M I J) = wp F Q (M (st I 41 (ix i) v) J) := wx_sI (t := 0) (n := 24) rfl h
theorem l_41 {I : Mem} {J : Nat → Int64} {Q : Option Value → HP → Prop} {F : Int32 → HP → RS} : wp (aLI 41 0 F) Q (M I J) = wp (F (ii 24)) Q (M I J) := wp_aL (t := 0) (n := 24) rfl
theorem o_42 {I : Mem} {J : Nat → Int64} {Q : Option Value → HP → Prop} {F : HP → RS} : wp (obT 42 3 F) Q (M I J) = wp F Q (M I J) := wp_ob rfl
theorem i_42_0 {I : Mem} {J : Nat → Int64} {Q : Option Value → HP → Prop} {F : Nat → HP → RS} : wp (rR 42 3 0 F) Q (M I J) = wp (F 43) Q (M I J) := wp_rR rfl
theorem i_42_1 {I : Mem} {J : Nat → Int64} {Q : Option Value → HP → Prop} {F : Int32 → HP → RS} : wp (rI 42 3 1 F) Q (M I J) = wp (F (I 42 1)) Q (M I J) := wp_rI rfl
theorem w_42_1 {I : Mem} {J : Nat → Int64} {Q : Option Value → HP → Prop} {F : HP → RS} {v : Int32} : wp (wF 42 3 1 (.int v) F) Q (M I J) = wp F Q (M (st I 42 1 v) J) := wp_wI rfl
theorem i_42_2 {I : Mem} {J : Nat → Int64} {Q : Option Value → HP → Prop} {F : Int32 → HP → RS} : wp (rI 42 3 2 F) Q (M I J) = wp (F (I 42 2)) Q (M I J) := wp_rI rfl
theorem w_42_2 {I : Mem} {J : Nat → Int64} {Q : Option Value → HP → Prop} {F : HP → RS} {v : Int32} : wp (wF 42 3 2 (.int v) F) Q (M I J) = wp F Q (M (st I 42 2 v) J) := wp_wI rfl
theorem a_43 {I : Mem} {J : Nat → Int64} {Q : Option Value → HP → Prop} {F : Int32 → HP → RS} {i : Int32} (h : inb i 24) : wp (aI 43 0 i F) Q (M I J) = wp (F (I 43 (ix i))) Q (M I J) := wx_aI (t := 0) (n := 24) rfl h
theorem s_43 {I : Mem} {J : Nat → Int64} {Q : Option Value → HP → Prop} {F : HP → RS} {i : Int32} {v : Int32} (h : inb i 24) : wp (sI 43 0 i v F) Q (M I J) = wp F Q (M (st I 43 (ix i) v) J) := wx_sI (t := 0) (n := 24) rfl h
theorem l_43 {I : Mem} {J : Nat → Int64} {Q : Option Value → HP → Prop} {F : Int32 → HP → RS} : wp (aLI 43 0 F) Q (M I J) = wp (F (ii 24)) Q (M I J) := wp_aL (t := 0) (n := 24) rfl
theorem o_44 {I : Mem} {J : Nat → Int64} {Q : Option Value → HP → Prop} {F : HP → RS} : wp (obT 44 3 F) Q (M I J) = wp F Q (M I J) := wp_ob rfl
theorem i_44_0 {I : Mem} {J : Nat → Int64} {Q : Option Value → HP → Prop} {F : Nat → HP → RS} : wp (rR 44 3 0 F) Q (M I J) = wp (F 45) Q (M I J) := wp_rR rfl
theorem i_44_1 {I : Mem} {J : Nat → Int64} {Q : Option Value → HP → Prop} {F : Int32 → HP → RS} : wp (rI 44 3 1 F) Q (M I J) = wp (F (I 44 1)) Q (M I J) := wp_rI rfl
theorem w_44_1 {I : Mem} {J : Nat → Int64} {Q : Option Value → HP → Prop} {F : HP → RS} {v : Int32} : wp (wF 44 3 1 (.int v) F) Q (M I J) = wp F Q (M (st I 44 1 v) J) := wp_wI rfl
theorem i_44_2 {I : Mem} {J : Nat → Int64} {Q : Option Value → HP → Prop} {F : Int32 → HP → RS} : wp (rI 44 3 2 F) Q (M I J) = wp (F (I 44 2)) Q (M I J) := wp_rI rfl
theorem w_44_2 {I : Mem} {J : Nat → Int64} {Q : Option Value → HP → Prop} {F : HP → RS} {v : Int32} : wp (wF 44 3 2 (.int v) F) Q (M I J) = wp F Q (M (st I 44 2 v) J) := wp_wI rfl
theorem a_45 {I : Mem} {J : Nat → Int64} {Q : Option Value → HP → Prop} {F : Int32 → HP → RS} {i : Int32} (h : inb i 24) : wp (aI 45 0 i F) Q (M I J) = wp (F (I 45 (ix i))) Q (M I J) := wx_aI (t := 0) (n := 24) rfl h
theorem s_45 {I : Mem} {J : Nat → Int64} {Q : Option Value → HP → Prop} {F : HP → RS} {i : Int32} {v : Int32} (h : inb i 24) : wp (sI 45 0 i v F) Q (M I J) = wp F Q (M (st I 45 (ix i) v) J) := wx_sI (t := 0) (n := 24) rfl h
theorem l_45 {I : Mem} {J : Nat → Int64} {Q : Option Value → HP → Prop} {F : Int32 → HP → RS} : wp (aLI 45 0 F) Q (M I J) = wp (F (ii 24)) Q (M I J) := wp_aL (t := 0) (n := 24) rfl
theorem o_46 {I : Mem} {J : Nat → Int64} {Q : Option Value → HP → Prop} {F : HP → RS} : wp (obT 46 3 F) Q (M I J) = wp F Q (M I J) := wp_ob rfl
theorem i_46_0 {I : Mem} {J : Nat → Int64} {Q : Option Value → HP → Prop} {F : Nat → HP → RS} : wp (rR 46 3 0 F) Q (M I J) = wp (F 47) Q (M I J) := wp_rR rfl
theorem i_46_1 {I : Mem} {J : Nat → Int64} {Q : Option Value → HP → Prop} {F : Int32 → HP → RS} : wp (rI 46 3 1 F) Q (M I J) = wp (F (I 46 1)) Q (M I J) := wp_rI rfl
theorem w_46_1 {I : Mem} {J : Nat → Int64} {Q : Option Value → HP → Prop} {F : HP → RS} {v : Int32} : wp (wF 46 3 1 (.int v) F) Q (M I J) = wp F Q (M (st I 46 1 v) J) := wp_wI rfl
theorem i_46_2 {I : Mem} {J : Nat → Int64} {Q : Option Value → HP → Prop} {F : Int32 → HP → RS} : wp (rI 46 3 2 F) Q (M I J) = wp (F (I 46 2)) Q (M I J) := wp_rI rfl
theorem w_46_2 {I : Mem} {J : Nat → Int64} {Q : Option Value → HP → Prop} {F : HP → RS} {v : Int32} : wp (wF 46 3 2 (.int v) F) Q (M I J) = wp F Q (M (st I 46 2 v) J) := wp_wI rfl
theorem a_47 {I : Mem} {J : Nat → Int64} {Q : Option Value → HP → Prop} {F : Int32 → HP → RS} {i : Int32} (h : inb i 24) : wp (aI 47 0 i F) Q (M I J) = wp (F (I 47 (ix i))) Q (M I J) := wx_aI (t := 0) (n := 24) rfl h
theorem s_47 {I : Mem} {J : Nat → Int64} {Q : Option Value → HP → Prop} {F : HP → RS} {i : Int32} {v : Int32} (h : inb i 24) : wp (sI 47 0 i v F) Q (M I J) = wp F Q (M (st I 47 (ix i) v) J) := wx_sI (t := 0) (n := 24) rfl h
theorem l_47 {I : Mem} {J : Nat → Int64} {Q : Option Value → HP → Prop} {F : Int32 → HP → RS} : wp (aLI 47 0 F) Q (M I J) = wp (F (ii 24)) Q (M I J) := wp_aL (t := 0) (n := 24) rfl
theorem a_49 {I : Mem} {J : Nat → Int64} {Q : Option Value → HP → Prop} {F : Int32 → HP → RS} {i : Int32} (h : inb i 6) : wp (aI 49 0 i F) Q (M I J) = wp (F (I 49 (ix i))) Q (M I J) := wx_aI (t := 0) (n := 6) rfl h
theorem s_49 {I : Mem} {J : Nat → Int64} {Q : Option Value → HP → Prop} {F : HP → RS} {i : Int32} {v : Int32} (h : inb i 6) : wp (sI 49 0 i v F) Q (M I J) = wp F Q (M (st I 49 (ix i) v) J) := wx_sI (t := 0) (n := 6) rfl h
theorem l_49 {I : Mem} {J : Nat → Int64} {Q : Option Value → HP → Prop} {F : Int32 → HP → RS} : wp (aLI 49 0 F) Q (M I J) = wp (F (ii 6)) Q (M I J) := wp_aL (t := 0) (n := 6) rfl
theorem a_50 {I : Mem} {J : Nat → Int64} {Q : Option Value → HP → Prop} {F : Int32 → HP → RS} {i : Int32} (h : inb i 6) : wp (aI 50 0 i F) Q (M I J) = wp (F (I 50 (ix i))) Q (M I J) := wx_aI (t := 0) (n := 6) rfl h
theorem s_50 {I : Mem} {J : Nat → Int64} {Q : Option Value → HP → Prop} {F : HP → RS} {i : Int32} {v : Int32} (h : inb i 6) : wp (sI 50 0 i v F) Q (M I J) = wp F Q (M (st I 50 (ix i) v) J) := wx_sI (t := 0) (n := 6) rfl h
theorem l_50 {I : Mem} {J : Nat → Int64} {Q : Option Value → HP → Prop} {F : Int32 → HP → RS} : wp (aLI 50 0 F) Q (M I J) = wp (F (ii 6)) Q (M I J) := wp_aL (t := 0) (n := 6) rfl
theorem a_51 {I : Mem} {J : Nat → Int64} {Q : Option Value → HP → Prop} {F : Int32 → HP → RS} {i : Int32} (h : inb i 6) : wp (aI 51 0 i F) Q (M I J) = wp (F (I 51 (ix i))) Q (M I J) := wx_aI (t := 0) (n := 6) rfl h
theorem s_51 {I : Mem} {J : Nat → Int64} {Q : Option Value → HP → Prop} {F : HP → RS} {i : Int32} {v : Int32} (h : inb i 6) : wp (sI 51 0 i v F) Q (M I J) = wp F Q (M (st I 51 (ix i) v) J) := wx_sI (t := 0) (n := 6) rfl h
theorem l_51 {I : Mem} {J : Nat → Int64} {Q : Option Value → HP → Prop} {F : Int32 → HP → RS} : wp (aLI 51 0 F) Q (M I J) = wp (F (ii 6)) Q (M I J) := wp_aL (t := 0) (n := 6) rfl
theorem a_52 {I : Mem} {J : Nat → Int64} {Q : Option Value → HP → Prop} {F : Int32 → HP → RS} {i : Int32} (h : inb i 6) : wp (aI 52 0 i F) Q (M I J) = wp (F (I 52 (ix i))) Q (M I J) := wx_aI (t := 0) (n := 6) rfl h
theorem s_52 {I : Mem} {J : Nat → Int64} {Q : Option Value → HP → Prop} {F : HP → RS} {i : Int32} {v : Int32} (h : inb i 6) : wp (sI 52 0 i v F) Q (M I J) = wp F Q (M (st I 52 (ix i) v) J) := wx_sI (t := 0) (n := 6) rfl h
theorem l_52 {I : Mem} {J : Nat → Int64} {Q : Option Value → HP → Prop} {F : Int32 → HP → RS} : wp (aLI 52 0 F) Q (M I J) = wp (F (ii 6)) Q (M I J) := wp_aL (t := 0) (n := 6) rfl
theorem a_53 {I : Mem} {J : Nat → Int64} {Q : Option Value → HP → Prop} {F : Int32 → HP → RS} {i : Int32} (h : inb i 6) : wp (aI 53 0 i F) Q (M I J) = wp (F (I 53 (ix i))) Q (M I J) := wx_aI (t := 0) (n := 6) rfl h
theorem s_53 {I : Mem} {J : Nat → Int64} {Q : Option Value → HP → Prop} {F : HP → RS} {i : Int32} {v : Int32} (h : inb i 6) : wp (sI 53 0 i v F) Q (M I J) = wp F Q (M (st I 53 (ix i) v) J) := wx_sI (t := 0) (n := 6) rfl h
theorem l_53 {I : Mem} {J : Nat → Int64} {Q : Option Value → HP → Prop} {F : Int32 → HP → RS} : wp (aLI 53 0 F) Q (M I J) = wp (F (ii 6)) Q (M I J) := wp_aL (t := 0) (n := 6) rfl
theorem a_54 {I : Mem} {J : Nat → Int64} {Q : Option Value → HP → Prop} {F : Int32 → HP → RS} {i : Int32} (h : inb i 4) : wp (aI 54 0 i F) Q (M I J) = wp (F (I 54 (ix i))) Q (M I J) := wx_aI (t := 0) (n := 4) rfl h
theorem s_54 {I : Mem} {J : Nat → Int64} {Q : Option Value → HP → Prop} {F : HP → RS} {i : Int32} {v : Int32} (h : inb i 4) : wp (sI 54 0 i v F) Q (M I J) = wp F Q (M (st I 54 (ix i) v) J) := wx_sI (t := 0) (n := 4) rfl h
theorem l_54 {I : Mem} {J : Nat → Int64} {Q : Option Value → HP → Prop} {F : Int32 → HP → RS} : wp (aLI 54 0 F) Q (M I J) = wp (F (ii 4)) Q (M I J) := wp_aL (t := 0) (n := 4) rfl
theorem a_55 {I : Mem} {J : Nat → Int64} {Q : Option Value → HP → Prop} {F : Int32 → HP → RS} {i : Int32} (h : inb i 6) : wp (aI 55 0 i F) Q (M I J) = wp (F (I 55 (ix i))) Q (M I J) := wx_aI (t := 0) (n := 6) rfl h
theorem s_55 {I : Mem} {J : Nat → Int64} {Q : Option Value → HP → Prop} {F : HP → RS} {i : Int32} {v : Int32} (h : inb i 6) : wp (sI 55 0 i v F) Q (M I J) = wp F Q (M (st I 55 (ix i) v) J) := wx_sI (t := 0) (n := 6) rfl h
theorem l_55 {I : Mem} {J : Nat → Int64} {Q : Option Value → HP → Prop} {F : Int32 → HP → RS} : wp (aLI 55 0 F) Q (M I J) = wp (F (ii 6)) Q (M I J) := wp_aL (t := 0) (n := 6) rfl
theorem a_56 {I : Mem} {J : Nat → Int64} {Q : Option Value → HP → Prop} {F : Int32 → HP → RS} {i : Int32} (h : inb i 6) : wp (aI 56 0 i F) Q (M I J) = wp (F (I 56 (ix i))) Q (M I J) := wx_aI (t := 0) (n := 6) rfl h
theorem s_56 {I : Mem} {J : Nat → Int64} {Q : Option Value → HP → Prop} {F : HP → RS} {i : Int32} {v : Int32} (h : inb i 6) : wp (sI 56 0 i v F) Q (M I J) = wp F Q (M (st I 56 (ix i) v) J) := wx_sI (t := 0) (n := 6) rfl h
theorem l_56 {I : Mem} {J : Nat → Int64} {Q : Option Value → HP → Prop} {F : Int32 → HP → RS} : wp (aLI 56 0 F) Q (M I J) = wp (F (ii 6)) Q (M I J) := wp_aL (t := 0) (n := 6) rfl
theorem a_57 {I : Mem} {J : Nat → Int64} {Q : Option Value → HP → Prop} {F : Int32 → HP → RS} {i : Int32} (h : inb i 6) : wp (aI 57 0 i F) Q (M I J) = wp (F (I 57 (ix i))) Q (M I J) := wx_aI (t := 0) (n := 6) rfl h
theorem s_57 {I : Mem} {J : Nat → Int64} {Q : Option Value → HP → Prop} {F : HP → RS} {i : Int32} {v : Int32} (h : inb i 6) : wp (sI 57 0 i v F) Q (M I J) = wp F Q (M (st I 57 (ix i) v) J) := wx_sI (t := 0) (n := 6) rfl h
theorem l_57 {I : Mem} {J : Nat → Int64} {Q : Option Value → HP → Prop} {F : Int32 → HP → RS} : wp (aLI 57 0 F) Q (M I J) = wp (F (ii 6)) Q (M I J) := wp_aL (t := 0) (n := 6) rfl
theorem a_58 {I : Mem} {J : Nat → Int64} {Q : Option Value → HP → Prop} {F : Int32 → HP → RS} {i : Int32} (h : inb i 6) : wp (aI 58 0 i F) Q (M I J) = wp (F (I 58 (ix i))) Q (M I J) := wx_aI (t := 0) (n := 6) rfl h
theorem s_58 {I : Mem} {J : Nat → Int64} {Q : Option Value → HP → Prop} {F : HP → RS} {i : Int32} {v : Int32} (h : inb i 6) : wp (sI 58 0 i v F) Q (M I J) = wp F Q (M (st I 58 (ix i) v) J) := wx_sI (t := 0) (n := 6) rfl h
theorem l_58 {I : Mem} {J : Nat → Int64} {Q : Option Value → HP → Prop} {F : Int32 → HP → RS} : wp (aLI 58 0 F) Q (M I J) = wp (F (ii 6)) Q (M I J) := wp_aL (t := 0) (n := 6) rfl
theorem o_59 {I : Mem} {J : Nat → Int64} {Q : Option Value → HP → Prop} {F : HP → RS} : wp (obT 59 4 F) Q (M I J) = wp F Q (M I J) := wp_ob rfl
theorem i_59_0 {I : Mem} {J : Nat → Int64} {Q : Option Value → HP → Prop} {F : Nat → HP → RS} : wp (rR 59 4 0 F) Q (M I J) = wp (F 1) Q (M I J) := wp_rR rfl
theorem i_59_1 {I : Mem} {J : Nat → Int64} {Q : Option Value → HP → Prop} {F : Nat → HP → RS} : wp (rR 59 4 1 F) Q (M I J) = wp (F 60) Q (M I J) := wp_rR rfl
theorem i_59_3 {I : Mem} {J : Nat → Int64} {Q : Option Value → HP → Prop} {F : Int32 → HP → RS} : wp (rI 59 4 3 F) Q (M I J) = wp (F (I 59 3)) Q (M I J) := wp_rI rfl
theorem w_59_3 {I : Mem} {J : Nat → Int64} {Q : Option Value → HP → Prop} {F : HP → RS} {v : Int32} : wp (wF 59 4 3 (.int v) F) Q (M I J) = wp F Q (M (st I 59 3 v) J) := wp_wI rfl
theorem o_60 {I : Mem} {J : Nat → Int64} {Q : Option Value → HP → Prop} {F : HP → RS} : wp (obT 60 6 F) Q (M I J) = wp F Q (M I J) := wp_ob rfl
theorem i_60_0 {I : Mem} {J : Nat → Int64} {Q : Option Value → HP → Prop} {F : Nat → HP → RS} : wp (rR 60 6 0 F) Q (M I J) = wp (F 61) Q (M I J) := wp_rR rfl
theorem i_60_1 {I : Mem} {J : Nat → Int64} {Q : Option Value → HP → Prop} {F : Nat → HP → RS} : wp (rR 60 6 1 F) Q (M I J) = wp (F 62) Q (M I J) := wp_rR rfl
theorem i_60_2 {I : Mem} {J : Nat → Int64} {Q : Option Value → HP → Prop} {F : Int32 → HP → RS} : wp (rI 60 6 2 F) Q (M I J) = wp (F (I 60 2)) Q (M I J) := wp_rI rfl
theorem w_60_2 {I : Mem} {J : Nat → Int64} {Q : Option Value → HP → Prop} {F : HP → RS} {v : Int32} : wp (wF 60 6 2 (.int v) F) Q (M I J) = wp F Q (M (st I 60 2 v) J) := wp_wI rfl
theorem a_61 {I : Mem} {J : Nat → Int64} {Q : Option Value → HP → Prop} {F : Int32 → HP → RS} {i : Int32} (h : inb i 60) : wp (aI 61 0 i F) Q (M I J) = wp (F (I 61 (ix i))) Q (M I J) := wx_aI (t := 0) (n := 60) rfl h
theorem s_61 {I : Mem} {J : Nat → Int64} {Q : Option Value → HP → Prop} {F : HP → RS} {i : Int32} {v : Int32} (h : inb i 60) : wp (sI 61 0 i v F) Q (M I J) = wp F Q (M (st I 61 (ix i) v) J) := wx_sI (t := 0) (n := 60) rfl h
theorem l_61 {I : Mem} {J : Nat → Int64} {Q : Option Value → HP → Prop} {F : Int32 → HP → RS} : wp (aLI 61 0 F) Q (M I J) = wp (F (ii 60)) Q (M I J) := wp_aL (t := 0) (n := 60) rfl
theorem a_62 {I : Mem} {J : Nat → Int64} {Q : Option Value → HP → Prop} {F : Int32 → HP → RS} {i : Int32} (h : inb i 60) : wp (aI 62 0 i F) Q (M I J) = wp (F (I 62 (ix i))) Q (M I J) := wx_aI (t := 0) (n := 60) rfl h
theorem s_62 {I : Mem} {J : Nat → Int64} {Q : Option Value → HP → Prop} {F : HP → RS} {i : Int32} {v : Int32} (h : inb i 60) : wp (sI 62 0 i v F) Q (M I J) = wp F Q (M (st I 62 (ix i) v) J) := wx_sI (t := 0) (n := 60) rfl h
theorem l_62 {I : Mem} {J : Nat → Int64} {Q : Option Value → HP → Prop} {F : Int32 → HP → RS} : wp (aLI 62 0 F) Q (M I J) = wp (F (ii 60)) Q (M I J) := wp_aL (t := 0) (n := 60) rfl
theorem o_63 {I : Mem} {J : Nat → Int64} {Q : Option Value → HP → Prop} {F : HP → RS} : wp (obT 63 7 F) Q (M I J) = wp F Q (M I J) := wp_ob rfl
theorem i_63_0 {I : Mem} {J : Nat → Int64} {Q : Option Value → HP → Prop} {F : Nat → HP → RS} : wp (rR 63 7 0 F) Q (M I J) = wp (F 64) Q (M I J) := wp_rR rfl
theorem i_63_1 {I : Mem} {J : Nat → Int64} {Q : Option Value → HP → Prop} {F : Int32 → HP → RS} : wp (rI 63 7 1 F) Q (M I J) = wp (F (I 63 1)) Q (M I J) := wp_rI rfl
theorem w_63_1 {I : Mem} {J : Nat → Int64} {Q : Option Value → HP → Prop} {F : HP → RS} {v : Int32} : wp (wF 63 7 1 (.int v) F) Q (M I J) = wp F Q (M (st I 63 1 v) J) := wp_wI rfl
theorem i_63_2 {I : Mem} {J : Nat → Int64} {Q : Option Value → HP → Prop} {F : Int32 → HP → RS} : wp (rI 63 7 2 F) Q (M I J) = wp (F (I 63 2)) Q (M I J) := wp_rI rfl
theorem w_63_2 {I : Mem} {J : Nat → Int64} {Q : Option Value → HP → Prop} {F : HP → RS} {v : Int32} : wp (wF 63 7 2 (.int v) F) Q (M I J) = wp F Q (M (st I 63 2 v) J) := wp_wI rfl
theorem i_63_3 {I : Mem} {J : Nat → Int64} {Q : Option Value → HP → Prop} {F : Int32 → HP → RS} : wp (rI 63 7 3 F) Q (M I J) = wp (F (I 63 3)) Q (M I J) := wp_rI rfl
theorem w_63_3 {I : Mem} {J : Nat → Int64} {Q : Option Value → HP → Prop} {F : HP → RS} {v : Int32} : wp (wF 63 7 3 (.int v) F) Q (M I J) = wp F Q (M (st I 63 3 v) J) := wp_wI rfl
theorem i_63_4 {I : Mem} {J : Nat → Int64} {Q : Option Value → HP → Prop} {F : Int32 → HP → RS} : wp (rI 63 7 4 F) Q (M I J) = wp (F (I 63 4)) Q (M I J) := wp_rI rfl
theorem w_63_4 {I : Mem} {J : Nat → Int64} {Q : Option Value → HP → Prop} {F : HP → RS} {v : Int32} : wp (wF 63 7 4 (.int v) F) Q (M I J) = wp F Q (M (st I 63 4 v) J) := wp_wI rfl
theorem a_64 {I : Mem} {J : Nat → Int64} {Q : Option Value → HP → Prop} {F : Int32 → HP → RS} {i : Int32} (h : inb i 30) : wp (aI 64 0 i F) Q (M I J) = wp (F (I 64 (ix i))) Q (M I J) := wx_aI (t := 0) (n := 30) rfl h
theorem s_64 {I : Mem} {J : Nat → Int64} {Q : Option Value → HP → Prop} {F : HP → RS} {i : Int32} {v : Int32} (h : inb i 30) : wp (sI 64 0 i v F) Q (M I J) = wp F Q (M (st I 64 (ix i) v) J) := wx_sI (t := 0) (n := 30) rfl h
theorem l_64 {I : Mem} {J : Nat → Int64} {Q : Option Value → HP → Prop} {F : Int32 → HP → RS} : wp (aLI 64 0 F) Q (M I J) = wp (F (ii 30)) Q (M I J) := wp_aL (t := 0) (n := 30) rfl
theorem o_66 {I : Mem} {J : Nat → Int64} {Q : Option Value → HP → Prop} {F : HP → RS} : wp (obT 66 5 F) Q (M I J) = wp F Q (M I J) := wp_ob rfl
theorem i_66_0 {I : Mem} {J : Nat → Int64} {Q : Option Value → HP → Prop} {F : Nat → HP → RS} : wp (rR 66 5 0 F) Q (M I J) = wp (F 67) Q (M I J) := wp_rR rfl
theorem i_66_1 {I : Mem} {J : Nat → Int64} {Q : Option Value → HP → Prop} {F : Int32 → HP → RS} : wp (rI 66 5 1 F) Q (M I J) = wp (F (I 66 1)) Q (M I J) := wp_rI rfl
theorem w_66_1 {I : Mem} {J : Nat → Int64} {Q : Option Value → HP → Prop} {F : HP → RS} {v : Int32} : wp (wF 66 5 1 (.int v) F) Q (M I J) = wp F Q (M (st I 66 1 v) J) := wp_wI rfl
theorem i_66_2 {I : Mem} {J : Nat → Int64} {Q : Option Value → HP → Prop} {F : Int32 → HP → RS} : wp (rI 66 5 2 F) Q (M I J) = wp (F (I 66 2)) Q (M I J) := wp_rI rfl
theorem w_66_2 {I : Mem} {J : Nat → Int64} {Q : Option Value → HP → Prop} {F : HP → RS} {v : Int32} : wp (wF 66 5 2 (.int v) F) Q (M I J) = wp F Q (M (st I 66 2 v) J) := wp_wI rfl
theorem a_67 {I : Mem} {J : Nat → Int64} {Q : Option Value → HP → Prop} {F : Int32 → HP → RS} {i : Int32} (h : inb i 24) : wp (aI 67 0 i F) Q (M I J) = wp (F (I 67 (ix i))) Q (M I J) := wx_aI (t := 0) (n := 24) rfl h
theorem s_67 {I : Mem} {J : Nat → Int64} {Q : Option Value → HP → Prop} {F : HP → RS} {i : Int32} {v : Int32} (h : inb i 24) : wp (sI 67 0 i v F) Q (M I J) = wp F Q (M (st I 67 (ix i) v) J) := wx_sI (t := 0) (n := 24) rfl h
theorem l_67 {I : Mem} {J : Nat → Int64} {Q : Option Value → HP → Prop} {F : Int32 → HP → RS} : wp (aLI 67 0 F) Q (M I J) = wp (F (ii 24)) Q (M I J) := wp_aL (t := 0) (n := 24) rfl
theorem o_68 {I : Mem} {J : Nat → Int64} {Q : Option Value → HP → Prop} {F : HP → RS} : wp (obT 68 5 F) Q (M I J) = wp F Q (M I J) := wp_ob rfl
theorem i_68_0 {I : Mem} {J : Nat → Int64} {Q : Option Value → HP → Prop} {F : Nat → HP → RS} : wp (rR 68 5 0 F) Q (M I J) = wp (F 69) Q (M I J) := wp_rR rfl
theorem i_68_1 {I : Mem} {J : Nat → Int64} {Q : Option Value → HP → Prop} {F : Int32 → HP → RS} : wp (rI 68 5 1 F) Q (M I J) = wp (F (I 68 1)) Q (M I J) := wp_rI rfl
theorem w_68_1 {I : Mem} {J : Nat → Int64} {Q : Option Value → HP → Prop} {F : HP → RS} {v : Int32} : wp (wF 68 5 1 (.int v) F) Q (M I J) = wp F Q (M (st I 68 1 v) J) := wp_wI rfl
theorem i_68_2 {I : Mem} {J : Nat → Int64} {Q : Option Value → HP → Prop} {F : Int32 → HP → RS} : wp (rI 68 5 2 F) Q (M I J) = wp (F (I 68 2)) Q (M I J) := wp_rI rfl
theorem w_68_2 {I : Mem} {J : Nat → Int64} {Q : Option Value → HP → Prop} {F : HP → RS} {v : Int32} : wp (wF 68 5 2 (.int v) F) Q (M I J) = wp F Q (M (st I 68 2 v) J) := wp_wI rfl
theorem a_69 {I : Mem} {J : Nat → Int64} {Q : Option Value → HP → Prop} {F : Int32 → HP → RS} {i : Int32} (h : inb i 24) : wp (aI 69 0 i F) Q (M I J) = wp (F (I 69 (ix i))) Q (M I J) := wx_aI (t := 0) (n := 24) rfl h
theorem s_69 {I : Mem} {J : Nat → Int64} {Q : Option Value → HP → Prop} {F : HP → RS} {i : Int32} {v : Int32} (h : inb i 24) : wp (sI 69 0 i v F) Q (M I J) = wp F Q (M (st I 69 (ix i) v) J) := wx_sI (t := 0) (n := 24) rfl h
theorem l_69 {I : Mem} {J : Nat → Int64} {Q : Option Value → HP → Prop} {F : Int32 → HP → RS} : wp (aLI 69 0 F) Q (M I J) = wp (F (ii 24)) Q (M I J) := wp_aL (t := 0) (n := 24) rfl
theorem o_70 {I : Mem} {J : Nat → Int64} {Q : Option Value → HP → Prop} {F : HP → RS} : wp (obT 70 5 F) Q (M I J) = wp F Q (M I J) := wp_ob rfl
theorem i_70_0 {I : Mem} {J : Nat → Int64} {Q : Option Value → HP → Prop} {F : Nat → HP → RS} : wp (rR 70 5 0 F) Q (M I J) = wp (F 71) Q (M I J) := wp_rR rfl
theorem i_70_1 {I : Mem} {J : Nat → Int64} {Q : Option Value → HP → Prop} {F : Int32 → HP → RS} : wp (rI 70 5 1 F) Q (M I J) = wp (F (I 70 1)) Q (M I J) := wp_rI rfl
theorem w_70_1 {I : Mem} {J : Nat → Int64} {Q : Option Value → HP → Prop} {F : HP → RS} {v : Int32} : wp (wF 70 5 1 (.int v) F) Q (M I J) = wp F Q (M (st I 70 1 v) J) := wp_wI rfl
theorem i_70_2 {I : Mem} {J : Nat → Int64} {Q : Option Value → HP → Prop} {F : Int32 → HP → RS} : wp (rI 70 5 2 F) Q (M I J) = wp (F (I 70 2)) Q (M I J) := wp_rI rfl
theorem w_70_2 {I : Mem} {J : Nat → Int64} {Q : Option Value → HP → Prop} {F : HP → RS} {v : Int32} : wp (wF 70 5 2 (.int v) F) Q (M I J) = wp F Q (M (st I 70 2 v) J) := wp_wI rfl
theorem a_71 {I : Mem} {J : Nat → Int64} {Q : Option Value → HP → Prop} {F : Int32 → HP → RS} {i : Int32} (h : inb i 24) : wp (aI 71 0 i F) Q (M I J) = wp (F (I 71 (ix i))) Q (M I J) := wx_aI (t := 0) (n := 24) rfl h
theorem s_71 {I : Mem} {J : Nat → Int64} {Q : Option Value → HP → Prop} {F : HP → RS} {i : Int32} {v : Int32} (h : inb i 24) : wp (sI 71 0 i v F) Q (M I J) = wp F Q (M (st I 71 (ix i) v) J) := wx_sI (t := 0) (n := 24) rfl h
theorem l_71 {I : Mem} {J : Nat → Int64} {Q : Option Value → HP → Prop} {F : Int32 → HP → RS} : wp (aLI 71 0 F) Q (M I J) = wp (F (ii 24)) Q (M I J) := wp_aL (t := 0) (n := 24) rfl
theorem o_72 {I : Mem} {J : Nat → Int64} {Q : Option Value → HP → Prop} {F : HP → RS} : wp (obT 72 5 F) Q (M I J) = wp F Q (M I J) := wp_ob rfl
theorem i_72_0 {I : Mem} {J : Nat → Int64} {Q : Option Value → HP → Prop} {F : Nat → HP → RS} : wp (rR 72 5 0 F) Q (M I J) = wp (F 73) Q (M I J) := wp_rR rfl
theorem i_72_1 {I : Mem} {J : Nat → Int64} {Q : Option Value → HP → Prop} {F : Int32 → HP → RS} : wp (rI 72 5 1 F) Q (M I J) = wp (F (I 72 1)) Q (M I J) := wp_rI rfl
theorem w_72_1 {I : Mem} {J : Nat → Int64} {Q : Option Value → HP → Prop} {F : HP → RS} {v : Int32} : wp (wF 72 5 1 (.int v) F) Q (M I J) = wp F Q (M (st I 72 1 v) J) := wp_wI rfl
theorem i_72_2 {I : Mem} {J : Nat → Int64} {Q : Option Value → HP → Prop} {F : Int32 → HP → RS} : wp (rI 72 5 2 F) Q (M I J) = wp (F (I 72 2)) Q (M I J) := wp_rI rfl
theorem w_72_2 {I : Mem} {J : Nat → Int64} {Q : Option Value → HP → Prop} {F : HP → RS} {v : Int32} : wp (wF 72 5 2 (.int v) F) Q (M I J) = wp F Q (M (st I 72 2 v) J) := wp_wI rfl
theorem a_73 {I : Mem} {J : Nat → Int64} {Q : Option Value → HP → Prop} {F : Int32 → HP → RS} {i : Int32} (h : inb i 24) : wp (aI 73 0 i F) Q (M I J) = wp (F (I 73 (ix i))) Q (M I J) := wx_aI (t := 0) (n := 24) rfl h
theorem s_73 {I : Mem} {J : Nat → Int64} {Q : Option Value → HP → Prop} {F : HP → RS} {i : Int32} {v : Int32} (h : inb i 24) : wp (sI 73 0 i v F) Q (M I J) = wp F Q (M (st I 73 (ix i) v) J) := wx_sI (t := 0) (n := 24) rfl h
theorem l_73 {I : Mem} {J : Nat → Int64} {Q : Option Value → HP → Prop} {F : Int32 → HP → RS} : wp (aLI 73 0 F) Q (M I J) = wp (F (ii 24)) Q (M I J) := wp_aL (t := 0) (n := 24) rfl
theorem a_74 {I : Mem} {J : Nat → Int64} {Q : Option Value → HP → Prop} {F : Int32 → HP → RS} {i : Int32} (h : inb i 7) : wp (aI 74 0 i F) Q (M I J) = wp (F (I 74 (ix i))) Q (M I J) := wx_aI (t := 0) (n := 7) rfl h
theorem s_74 {I : Mem} {J : Nat → Int64} {Q : Option Value → HP → Prop} {F : HP → RS} {i : Int32} {v : Int32} (h : inb i 7) : wp (sI 74 0 i v F) Q (M I J) = wp F Q (M (st I 74 (ix i) v) J) := wx_sI (t := 0) (n := 7) rfl h
theorem l_74 {I : Mem} {J : Nat → Int64} {Q : Option Value → HP → Prop} {F : Int32 → HP → RS} : wp (aLI 74 0 F) Q (M I J) = wp (F (ii 7)) Q (M I J) := wp_aL (t := 0) (n := 7) rfl
theorem o_75 {I : Mem} {J : Nat → Int64} {Q : Option Value → HP → Prop} {F : HP → RS} : wp (obT 75 9 F) Q (M I J) = wp F Q (M I J) := wp_ob rfl
theorem i_75_0 {I : Mem} {J : Nat → Int64} {Q : Option Value → HP → Prop} {F : Nat → HP → RS} : wp (rR 75 9 0 F) Q (M I J) = wp (F 76) Q (M I J) := wp_rR rfl
theorem i_75_1 {I : Mem} {J : Nat → Int64} {Q : Option Value → HP → Prop} {F : Nat → HP → RS} : wp (rR 75 9 1 F) Q (M I J) = wp (F 77) Q (M I J) := wp_rR rfl
theorem i_75_2 {I : Mem} {J : Nat → Int64} {Q : Option Value → HP → Prop} {F : Nat → HP → RS} : wp (rR 75 9 2 F) Q (M I J) = wp (F 78) Q (M I J) := wp_rR rfl
theorem i_75_3 {I : Mem} {J : Nat → Int64} {Q : Option Value → HP → Prop} {F : Int32 → HP → RS} : wp (rI 75 9 3 F) Q (M I J) = wp (F (I 75 3)) Q (M I J) := wp_rI rfl
theorem w_75_3 {I : Mem} {J : Nat → Int64} {Q : Option Value → HP → Prop} {F : HP → RS} {v : Int32} : wp (wF 75 9 3 (.int v) F) Q (M I J) = wp F Q (M (st I 75 3 v) J) := wp_wI rfl
theorem i_75_4 {I : Mem} {J : Nat → Int64} {Q : Option Value → HP → Prop} {F : Nat → HP → RS} : wp (rR 75 9 4 F) Q (M I J) = wp (F 79) Q (M I J) := wp_rR rfl
theorem i_75_5 {I : Mem} {J : Nat → Int64} {Q : Option Value → HP → Prop} {F : Int32 → HP → RS} : wp (rI 75 9 5 F) Q (M I J) = wp (F (I 75 5)) Q (M I J) := wp_rI rfl
theorem w_75_5 {I : Mem} {J : Nat → Int64} {Q : Option Value → HP → Prop} {F : HP → RS} {v : Int32} : wp (wF 75 9 5 (.int v) F) Q (M I J) = wp F Q (M (st I 75 5 v) J) := wp_wI rfl
theorem i_75_6 {I : Mem} {J : Nat → Int64} {Q : Option Value → HP → Prop} {F : Int32 → HP → RS} : wp (rI 75 9 6 F) Q (M I J) = wp (F (I 75 6)) Q (M I J) := wp_rI rfl
theorem w_75_6 {I : Mem} {J : Nat → Int64} {Q : Option Value → HP → Prop} {F : HP → RS} {v : Int32} : wp (wF 75 9 6 (.int v) F) Q (M I J) = wp F Q (M (st I 75 6 v) J) := wp_wI rfl
theorem i_75_7 {I : Mem} {J : Nat → Int64} {Q : Option Value → HP → Prop} {F : Int32 → HP → RS} : wp (rI 75 9 7 F) Q (M I J) = wp (F (I 75 7)) Q (M I J) := wp_rI rfl
theorem w_75_7 {I : Mem} {J : Nat → Int64} {Q : Option Value → HP → Prop} {F : HP → RS} {v : Int32} : wp (wF 75 9 7 (.int v) F) Q (M I J) = wp F Q (M (st I 75 7 v) J) := wp_wI rfl
theorem i_75_8 {I : Mem} {J : Nat → Int64} {Q : Option Value → HP → Prop} {F : Int32 → HP → RS} : wp (rI 75 9 8 F) Q (M I J) = wp (F (I 75 8)) Q (M I J) := wp_rI rfl
theorem w_75_8 {I : Mem} {J : Nat → Int64} {Q : Option Value → HP → Prop} {F : HP → RS} {v : Int32} : wp (wF 75 9 8 (.int v) F) Q (M I J) = wp F Q (M (st I 75 8 v) J) := wp_wI rfl
theorem i_75_9 {I : Mem} {J : Nat → Int64} {Q : Option Value → HP → Prop} {F : Nat → HP → RS} : wp (rR 75 9 9 F) Q (M I J) = wp (F 80) Q (M I J) := wp_rR rfl
theorem i_75_10 {I : Mem} {J : Nat → Int64} {Q : Option Value → HP → Prop} {F : Nat → HP → RS} : wp (rR 75 9 10 F) Q (M I J) = wp (F 81) Q (M I J) := wp_rR rfl
theorem i_75_11 {I : Mem} {J : Nat → Int64} {Q : Option Value → HP → Prop} {F : Nat → HP → RS} : wp (rR 75 9 11 F) Q (M I J) = wp (F 82) Q (M I J) := wp_rR rfl
theorem i_75_12 {I : Mem} {J : Nat → Int64} {Q : Option Value → HP → Prop} {F : Nat → HP → RS} : wp (rR 75 9 12 F) Q (M I J) = wp (F 83) Q (M I J) := wp_rR rfl
theorem i_75_13 {I : Mem} {J : Nat → Int64} {Q : Option Value → HP → Prop} {F : Int32 → HP → RS} : wp (rI 75 9 13 F) Q (M I J) = wp (F (I 75 13)) Q (M I J) := wp_rI rfl
theorem w_75_13 {I : Mem} {J : Nat → Int64} {Q : Option Value → HP → Prop} {F : HP → RS} {v : Int32} : wp (wF 75 9 13 (.int v) F) Q (M I J) = wp F Q (M (st I 75 13 v) J) := wp_wI rfl
theorem i_75_14 {I : Mem} {J : Nat → Int64} {Q : Option Value → HP → Prop} {F : Int32 → HP → RS} : wp (rI 75 9 14 F) Q (M I J) = wp (F (I 75 14)) Q (M I J) := wp_rI rfl
theorem w_75_14 {I : Mem} {J : Nat → Int64} {Q : Option Value → HP → Prop} {F : HP → RS} {v : Int32} : wp (wF 75 9 14 (.int v) F) Q (M I J) = wp F Q (M (st I 75 14 v) J) := wp_wI rfl
theorem i_75_15 {I : Mem} {J : Nat → Int64} {Q : Option Value → HP → Prop} {F : Int32 → HP → RS} : wp (rI 75 9 15 F) Q (M I J) = wp (F (I 75 15)) Q (M I J) := wp_rI rfl
theorem w_75_15 {I : Mem} {J : Nat → Int64} {Q : Option Value → HP → Prop} {F : HP → RS} {v : Int32} : wp (wF 75 9 15 (.int v) F) Q (M I J) = wp F Q (M (st I 75 15 v) J) := wp_wI rfl
theorem i_75_16 {I : Mem} {J : Nat → Int64} {Q : Option Value → HP → Prop} {F : Int32 → HP → RS} : wp (rI 75 9 16 F) Q (M I J) = wp (F (I 75 16)) Q (M I J) := wp_rI rfl
theorem w_75_16 {I : Mem} {J : Nat → Int64} {Q : Option Value → HP → Prop} {F : HP → RS} {v : Int32} : wp (wF 75 9 16 (.int v) F) Q (M I J) = wp F Q (M (st I 75 16 v) J) := wp_wI rfl
theorem i_75_17 {I : Mem} {J : Nat → Int64} {Q : Option Value → HP → Prop} {F : Nat → HP → RS} : wp (rR 75 9 17 F) Q (M I J) = wp (F 84) Q (M I J) := wp_rR rfl
theorem i_75_18 {I : Mem} {J : Nat → Int64} {Q : Option Value → HP → Prop} {F : Nat → HP → RS} : wp (rR 75 9 18 F) Q (M I J) = wp (F 85) Q (M I J) := wp_rR rfl
theorem i_75_19 {I : Mem} {J : Nat → Int64} {Q : Option Value → HP → Prop} {F : Nat → HP → RS} : wp (rR 75 9 19 F) Q (M I J) = wp (F 86) Q (M I J) := wp_rR rfl
theorem i_75_20 {I : Mem} {J : Nat → Int64} {Q : Option Value → HP → Prop} {F : Nat → HP → RS} : wp (rR 75 9 20 F) Q (M I J) = wp (F 87) Q (M I J) := wp_rR rfl
theorem i_75_21 {I : Mem} {J : Nat → Int64} {Q : Option Value → HP → Prop} {F : Int32 → HP → RS} : wp (rI 75 9 21 F) Q (M I J) = wp (F (I 75 21)) Q (M I J) := wp_rI rfl
theorem w_75_21 {I : Mem} {J : Nat → Int64} {Q : Option Value → HP → Prop} {F : HP → RS} {v : Int32} : wp (wF 75 9 21 (.int v) F) Q (M I J) = wp F Q (M (st I 75 21 v) J) := wp_wI rfl
theorem i_75_22 {I : Mem} {J : Nat → Int64} {Q : Option Value → HP → Prop} {F : Int32 → HP → RS} : wp (rI 75 9 22 F) Q (M I J) = wp (F (I 75 22)) Q (M I J) := wp_rI rfl
theorem w_75_22 {I : Mem} {J : Nat → Int64} {Q : Option Value → HP → Prop} {F : HP → RS} {v : Int32} : wp (wF 75 9 22 (.int v) F) Q (M I J) = wp F Q (M (st I 75 22 v) J) := wp_wI rfl
theorem i_75_23 {I : Mem} {J : Nat → Int64} {Q : Option Value → HP → Prop} {F : Int64 → HP → RS} : wp (rJ 75 9 23 F) Q (M I J) = wp (F (J 23)) Q (M I J) := wp_rJ rfl
theorem w_75_23 {I : Mem} {J : Nat → Int64} {Q : Option Value → HP → Prop} {F : HP → RS} {v : Int64} : wp (wF 75 9 23 (.long v) F) Q (M I J) = wp F Q (M I (sj J 23 v)) := wp_wJ rfl
theorem i_75_24 {I : Mem} {J : Nat → Int64} {Q : Option Value → HP → Prop} {F : Int64 → HP → RS} : wp (rJ 75 9 24 F) Q (M I J) = wp (F (J 24)) Q (M I J) := wp_rJ rfl
theorem w_75_24 {I : Mem} {J : Nat → Int64} {Q : Option Value → HP → Prop} {F : HP → RS} {v : Int64} : wp (wF 75 9 24 (.long v) F) Q (M I J) = wp F Q (M I (sj J 24 v)) := wp_wJ rfl
theorem i_75_25 {I : Mem} {J : Nat → Int64} {Q : Option Value → HP → Prop} {F : Int32 → HP → RS} : wp (rI 75 9 25 F) Q (M I J) = wp (F (I 75 25)) Q (M I J) := wp_rI rfl
theorem w_75_25 {I : Mem} {J : Nat → Int64} {Q : Option Value → HP → Prop} {F : HP → RS} {v : Int32} : wp (wF 75 9 25 (.int v) F) Q (M I J) = wp F Q (M (st I 75 25 v) J) := wp_wI rfl
theorem i_75_26 {I : Mem} {J : Nat → Int64} {Q : Option Value → HP → Prop} {F : Int32 → HP → RS} : wp (rI 75 9 26 F) Q (M I J) = wp (F (I 75 26)) Q (M I J) := wp_rI rfl
theorem w_75_26 {I : Mem} {J : Nat → Int64} {Q : Option Value → HP → Prop} {F : HP → RS} {v : Int32} : wp (wF 75 9 26 (.int v) F) Q (M I J) = wp F Q (M (st I 75 26 v) J) := wp_wI rfl
theorem i_75_27 {I : Mem} {J : Nat → Int64} {Q : Option Value → HP → Prop} {F : Nat → HP → RS} : wp (rR 75 9 27 F) Q (M I J) = wp (F 88) Q (M I J) := wp_rR rfl
theorem i_75_28 {I : Mem} {J : Nat → Int64} {Q : Option Value → HP → Prop} {F : Int32 → HP → RS} : wp (rI 75 9 28 F) Q (M I J) = wp (F (I 75 28)) Q (M I J) := wp_rI rfl
theorem w_75_28 {I : Mem} {J : Nat → Int64} {Q : Option Value → HP → Prop} {F : HP → RS} {v : Int32} : wp (wF 75 9 28 (.int v) F) Q (M I J) = wp F Q (M (st I 75 28 v) J) := wp_wI rfl
theorem i_75_29 {I : Mem} {J : Nat → Int64} {Q : Option Value → HP → Prop} {F : Int32 → HP → RS} : wp (rI 75 9 29 F) Q (M I J) = wp (F (I 75 29)) Q (M I J) := wp_rI rfl
theorem w_75_29 {I : Mem} {J : Nat → Int64} {Q : Option Value → HP → Prop} {F : HP → RS} {v : Int32} : wp (wF 75 9 29 (.int v) F) Q (M I J) = wp F Q (M (st I 75 29 v) J) := wp_wI rfl
theorem i_75_30 {I : Mem} {J : Nat → Int64} {Q : Option Value → HP → Prop} {F : Nat → HP → RS} : wp (rR 75 9 30 F) Q (M I J) = wp (F 89) Q (M I J) := wp_rR rfl
theorem i_75_31 {I : Mem} {J : Nat → Int64} {Q : Option Value → HP → Prop} {F : Nat → HP → RS} : wp (rR 75 9 31 F) Q (M I J) = wp (F 90) Q (M I J) := wp_rR rfl
theorem i_75_32 {I : Mem} {J : Nat → Int64} {Q : Option Value → HP → Prop} {F : Nat → HP → RS} : wp (rR 75 9 32 F) Q (M I J) = wp (F 91) Q (M I J) := wp_rR rfl
theorem i_75_33 {I : Mem} {J : Nat → Int64} {Q : Option Value → HP → Prop} {F : Nat → HP → RS} : wp (rR 75 9 33 F) Q (M I J) = wp (F 92) Q (M I J) := wp_rR rfl
theorem a_76 {I : Mem} {J : Nat → Int64} {Q : Option Value → HP → Prop} {F : Int32 → HP → RS} {i : Int32} (h : inb i 416) : wp (aI 76 0 i F) Q (M I J) = wp (F (I 76 (ix i))) Q (M I J) := wx_aI (t := 0) (n := 416) rfl h
theorem s_76 {I : Mem} {J : Nat → Int64} {Q : Option Value → HP → Prop} {F : HP → RS} {i : Int32} {v : Int32} (h : inb i 416) : wp (sI 76 0 i v F) Q (M I J) = wp F Q (M (st I 76 (ix i) v) J) := wx_sI (t := 0) (n := 416) rfl h
theorem l_76 {I : Mem} {J : Nat → Int64} {Q : Option Value → HP → Prop} {F : Int32 → HP → RS} : wp (aLI 76 0 F) Q (M I J) = wp (F (ii 416)) Q (M I J) := wp_aL (t := 0) (n := 416) rfl
theorem a_77 {I : Mem} {J : Nat → Int64} {Q : Option Value → HP → Prop} {F : Int32 → HP → RS} {i : Int32} (h : inb i 416) : wp (aI 77 0 i F) Q (M I J) = wp (F (I 77 (ix i))) Q (M I J) := wx_aI (t := 0) (n := 416) rfl h
theorem s_77 {I : Mem} {J : Nat → Int64} {Q : Option Value → HP → Prop} {F : HP → RS} {i : Int32} {v : Int32} (h : inb i 416) : wp (sI 77 0 i v F) Q (M I J) = wp F Q (M (st I 77 (ix i) v) J) := wx_sI (t := 0) (n := 416) rfl h
theorem l_77 {I : Mem} {J : Nat → Int64} {Q : Option Value → HP → Prop} {F : Int32 → HP → RS} : wp (aLI 77 0 F) Q (M I J) = wp (F (ii 416)) Q (M I J) := wp_aL (t := 0) (n := 416) rfl
theorem a_78 {I : Mem} {J : Nat → Int64} {Q : Option Value → HP → Prop} {F : Int32 → HP → RS} {i : Int32} (h : inb i 656) : wp (aI 78 0 i F) Q (M I J) = wp (F (I 78 (ix i))) Q (M I J) := wx_aI (t := 0) (n := 656) rfl h
theorem s_78 {I : Mem} {J : Nat → Int64} {Q : Option Value → HP → Prop} {F : HP → RS} {i : Int32} {v : Int32} (h : inb i 656) : wp (sI 78 0 i v F) Q (M I J) = wp F Q (M (st I 78 (ix i) v) J) := wx_sI (t := 0) (n := 656) rfl h
theorem l_78 {I : Mem} {J : Nat → Int64} {Q : Option Value → HP → Prop} {F : Int32 → HP → RS} : wp (aLI 78 0 F) Q (M I J) = wp (F (ii 656)) Q (M I J) := wp_aL (t := 0) (n := 656) rfl
theorem a_79 {I : Mem} {J : Nat → Int64} {Q : Option Value → HP → Prop} {F : Int32 → HP → RS} {i : Int32} (h : inb i 7) : wp (aI 79 0 i F) Q (M I J) = wp (F (I 79 (ix i))) Q (M I J) := wx_aI (t := 0) (n := 7) rfl h
theorem s_79 {I : Mem} {J : Nat → Int64} {Q : Option Value → HP → Prop} {F : HP → RS} {i : Int32} {v : Int32} (h : inb i 7) : wp (sI 79 0 i v F) Q (M I J) = wp F Q (M (st I 79 (ix i) v) J) := wx_sI (t := 0) (n := 7) rfl h
theorem l_79 {I : Mem} {J : Nat → Int64} {Q : Option Value → HP → Prop} {F : Int32 → HP → RS} : wp (aLI 79 0 F) Q (M I J) = wp (F (ii 7)) Q (M I J) := wp_aL (t := 0) (n := 7) rfl
theorem a_80 {I : Mem} {J : Nat → Int64} {Q : Option Value → HP → Prop} {F : Int32 → HP → RS} {i : Int32} (h : inb i 124) : wp (aI 80 0 i F) Q (M I J) = wp (F (I 80 (ix i))) Q (M I J) := wx_aI (t := 0) (n := 124) rfl h
theorem s_80 {I : Mem} {J : Nat → Int64} {Q : Option Value → HP → Prop} {F : HP → RS} {i : Int32} {v : Int32} (h : inb i 124) : wp (sI 80 0 i v F) Q (M I J) = wp F Q (M (st I 80 (ix i) v) J) := wx_sI (t := 0) (n := 124) rfl h
theorem l_80 {I : Mem} {J : Nat → Int64} {Q : Option Value → HP → Prop} {F : Int32 → HP → RS} : wp (aLI 80 0 F) Q (M I J) = wp (F (ii 124)) Q (M I J) := wp_aL (t := 0) (n := 124) rfl
theorem a_81 {I : Mem} {J : Nat → Int64} {Q : Option Value → HP → Prop} {F : Int32 → HP → RS} {i : Int32} (h : inb i 128) : wp (aI 81 0 i F) Q (M I J) = wp (F (I 81 (ix i))) Q (M I J) := wx_aI (t := 0) (n := 128) rfl h
theorem s_81 {I : Mem} {J : Nat → Int64} {Q : Option Value → HP → Prop} {F : HP → RS} {i : Int32} {v : Int32} (h : inb i 128) : wp (sI 81 0 i v F) Q (M I J) = wp F Q (M (st I 81 (ix i) v) J) := wx_sI (t := 0) (n := 128) rfl h
theorem l_81 {I : Mem} {J : Nat → Int64} {Q : Option Value → HP → Prop} {F : Int32 → HP → RS} : wp (aLI 81 0 F) Q (M I J) = wp (F (ii 128)) Q (M I J) := wp_aL (t := 0) (n := 128) rfl
theorem a_82 {I : Mem} {J : Nat → Int64} {Q : Option Value → HP → Prop} {F : Int32 → HP → RS} {i : Int32} (h : inb i 64) : wp (aI 82 0 i F) Q (M I J) = wp (F (I 82 (ix i))) Q (M I J) := wx_aI (t := 0) (n := 64) rfl h
theorem s_82 {I : Mem} {J : Nat → Int64} {Q : Option Value → HP → Prop} {F : HP → RS} {i : Int32} {v : Int32} (h : inb i 64) : wp (sI 82 0 i v F) Q (M I J) = wp F Q (M (st I 82 (ix i) v) J) := wx_sI (t := 0) (n := 64) rfl h
theorem l_82 {I : Mem} {J : Nat → Int64} {Q : Option Value → HP → Prop} {F : Int32 → HP → RS} : wp (aLI 82 0 F) Q (M I J) = wp (F (ii 64)) Q (M I J) := wp_aL (t := 0) (n := 64) rfl
theorem a_83 {I : Mem} {J : Nat → Int64} {Q : Option Value → HP → Prop} {F : Int32 → HP → RS} {i : Int32} (h : inb i 24) : wp (aI 83 0 i F) Q (M I J) = wp (F (I 83 (ix i))) Q (M I J) := wx_aI (t := 0) (n := 24) rfl h
theorem s_83 {I : Mem} {J : Nat → Int64} {Q : Option Value → HP → Prop} {F : HP → RS} {i : Int32} {v : Int32} (h : inb i 24) : wp (sI 83 0 i v F) Q (M I J) = wp F Q (M (st I 83 (ix i) v) J) := wx_sI (t := 0) (n := 24) rfl h
theorem l_83 {I : Mem} {J : Nat → Int64} {Q : Option Value → HP → Prop} {F : Int32 → HP → RS} : wp (aLI 83 0 F) Q (M I J) = wp (F (ii 24)) Q (M I J) := wp_aL (t := 0) (n := 24) rfl
theorem a_84 {I : Mem} {J : Nat → Int64} {Q : Option Value → HP → Prop} {F : Int32 → HP → RS} {i : Int32} (h : inb i 24) : wp (aI 84 1 i F) Q (M I J) = wp (F (I 84 (ix i))) Q (M I J) := wx_aI (t := 1) (n := 24) rfl h
theorem s_84 {I : Mem} {J : Nat → Int64} {Q : Option Value → HP → Prop} {F : HP → RS} {i : Int32} {v : Int32} (h : inb i 24) : wp (sI 84 1 i v F) Q (M I J) = wp F Q (M (st I 84 (ix i) v) J) := wx_sI (t := 1) (n := 24) rfl h
theorem l_84 {I : Mem} {J : Nat → Int64} {Q : Option Value → HP → Prop} {F : Int32 → HP → RS} : wp (aLI 84 1 F) Q (M I J) = wp (F (ii 24)) Q (M I J) := wp_aL (t := 1) (n := 24) rfl
theorem a_85 {I : Mem} {J : Nat → Int64} {Q : Option Value → HP → Prop} {F : Int32 → HP → RS} {i : Int32} (h : inb i 6) : wp (aI 85 0 i F) Q (M I J) = wp (F (I 85 (ix i))) Q (M I J) := wx_aI (t := 0) (n := 6) rfl h
theorem s_85 {I : Mem} {J : Nat → Int64} {Q : Option Value → HP → Prop} {F : HP → RS} {i : Int32} {v : Int32} (h : inb i 6) : wp (sI 85 0 i v F) Q (M I J) = wp F Q (M (st I 85 (ix i) v) J) := wx_sI (t := 0) (n := 6) rfl h
theorem l_85 {I : Mem} {J : Nat → Int64} {Q : Option Value → HP → Prop} {F : Int32 → HP → RS} : wp (aLI 85 0 F) Q (M I J) = wp (F (ii 6)) Q (M I J) := wp_aL (t := 0) (n := 6) rfl
theorem a_86 {I : Mem} {J : Nat → Int64} {Q : Option Value → HP → Prop} {F : Int32 → HP → RS} {i : Int32} (h : inb i 6) : wp (aI 86 0 i F) Q (M I J) = wp (F (I 86 (ix i))) Q (M I J) := wx_aI (t := 0) (n := 6) rfl h
theorem s_86 {I : Mem} {J : Nat → Int64} {Q : Option Value → HP → Prop} {F : HP → RS} {i : Int32} {v : Int32} (h : inb i 6) : wp (sI 86 0 i v F) Q (M I J) = wp F Q (M (st I 86 (ix i) v) J) := wx_sI (t := 0) (n := 6) rfl h
theorem l_86 {I : Mem} {J : Nat → Int64} {Q : Option Value → HP → Prop} {F : Int32 → HP → RS} : wp (aLI 86 0 F) Q (M I J) = wp (F (ii 6)) Q (M I J) := wp_aL (t := 0) (n := 6) rfl
theorem a_87 {I : Mem} {J : Nat → Int64} {Q : Option Value → HP → Prop} {F : Int32 → HP → RS} {i : Int32} (h : inb i 6) : wp (aI 87 0 i F) Q (M I J) = wp (F (I 87 (ix i))) Q (M I J) := wx_aI (t := 0) (n := 6) rfl h
theorem s_87 {I : Mem} {J : Nat → Int64} {Q : Option Value → HP → Prop} {F : HP → RS} {i : Int32} {v : Int32} (h : inb i 6) : wp (sI 87 0 i v F) Q (M I J) = wp F Q (M (st I 87 (ix i) v) J) := wx_sI (t := 0) (n := 6) rfl h
theorem l_87 {I : Mem} {J : Nat → Int64} {Q : Option Value → HP → Prop} {F : Int32 → HP → RS} : wp (aLI 87 0 F) Q (M I J) = wp (F (ii 6)) Q (M I J) := wp_aL (t := 0) (n := 6) rfl
theorem a_88 {I : Mem} {J : Nat → Int64} {Q : Option Value → HP → Prop} {F : Int32 → HP → RS} {i : Int32} (h : inb i 30) : wp (aI 88 0 i F) Q (M I J) = wp (F (I 88 (ix i))) Q (M I J) := wx_aI (t := 0) (n := 30) rfl h
theorem s_88 {I : Mem} {J : Nat → Int64} {Q : Option Value → HP → Prop} {F : HP → RS} {i : Int32} {v : Int32} (h : inb i 30) : wp (sI 88 0 i v F) Q (M I J) = wp F Q (M (st I 88 (ix i) v) J) := wx_sI (t := 0) (n := 30) rfl h
theorem l_88 {I : Mem} {J : Nat → Int64} {Q : Option Value → HP → Prop} {F : Int32 → HP → RS} : wp (aLI 88 0 F) Q (M I J) = wp (F (ii 30)) Q (M I J) := wp_aL (t := 0) (n := 30) rfl
theorem a_89 {I : Mem} {J : Nat → Int64} {Q : Option Value → HP → Prop} {F : Int32 → HP → RS} {i : Int32} (h : inb i 4) : wp (aI 89 0 i F) Q (M I J) = wp (F (I 89 (ix i))) Q (M I J) := wx_aI (t := 0) (n := 4) rfl h
theorem s_89 {I : Mem} {J : Nat → Int64} {Q : Option Value → HP → Prop} {F : HP → RS} {i : Int32} {v : Int32} (h : inb i 4) : wp (sI 89 0 i v F) Q (M I J) = wp F Q (M (st I 89 (ix i) v) J) := wx_sI (t := 0) (n := 4) rfl h
theorem l_89 {I : Mem} {J : Nat → Int64} {Q : Option Value → HP → Prop} {F : Int32 → HP → RS} : wp (aLI 89 0 F) Q (M I J) = wp (F (ii 4)) Q (M I J) := wp_aL (t := 0) (n := 4) rfl
theorem a_90 {I : Mem} {J : Nat → Int64} {Q : Option Value → HP → Prop} {F : Int32 → HP → RS} {i : Int32} (h : inb i 4) : wp (aI 90 0 i F) Q (M I J) = wp (F (I 90 (ix i))) Q (M I J) := wx_aI (t := 0) (n := 4) rfl h
theorem s_90 {I : Mem} {J : Nat → Int64} {Q : Option Value → HP → Prop} {F : HP → RS} {i : Int32} {v : Int32} (h : inb i 4) : wp (sI 90 0 i v F) Q (M I J) = wp F Q (M (st I 90 (ix i) v) J) := wx_sI (t := 0) (n := 4) rfl h
theorem l_90 {I : Mem} {J : Nat → Int64} {Q : Option Value → HP → Prop} {F : Int32 → HP → RS} : wp (aLI 90 0 F) Q (M I J) = wp (F (ii 4)) Q (M I J) := wp_aL (t := 0) (n := 4) rfl
theorem a_91 {I : Mem} {J : Nat → Int64} {Q : Option Value → HP → Prop} {F : Int32 → HP → RS} {i : Int32} (h : inb i 96) : wp (aI 91 0 i F) Q (M I J) = wp (F (I 91 (ix i))) Q (M I J) := wx_aI (t := 0) (n := 96) rfl h
theorem s_91 {I : Mem} {J : Nat → Int64} {Q : Option Value → HP → Prop} {F : HP → RS} {i : Int32} {v : Int32} (h : inb i 96) : wp (sI 91 0 i v F) Q (M I J) = wp F Q (M (st I 91 (ix i) v) J) := wx_sI (t := 0) (n := 96) rfl h
theorem l_91 {I : Mem} {J : Nat → Int64} {Q : Option Value → HP → Prop} {F : Int32 → HP → RS} : wp (aLI 91 0 F) Q (M I J) = wp (F (ii 96)) Q (M I J) := wp_aL (t := 0) (n := 96) rfl
theorem a_92 {I : Mem} {J : Nat → Int64} {Q : Option Value → HP → Prop} {F : Int32 → HP → RS} {i : Int32} (h : inb i 24) : wp (aI 92 0 i F) Q (M I J) = wp (F (I 92 (ix i))) Q (M I J) := wx_aI (t := 0) (n := 24) rfl h
theorem s_92 {I : Mem} {J : Nat → Int64} {Q : Option Value → HP → Prop} {F : HP → RS} {i : Int32} {v : Int32} (h : inb i 24) : wp (sI 92 0 i v F) Q (M I J) = wp F Q (M (st I 92 (ix i) v) J) := wx_sI (t := 0) (n := 24) rfl h
theorem l_92 {I : Mem} {J : Nat → Int64} {Q : Option Value → HP → Prop} {F : Int32 → HP → RS} : wp (aLI 92 0 F) Q (M I J) = wp (F (ii 24)) Q (M I J) := wp_aL (t := 0) (n := 24) rfl
theorem r_33 {I : Mem} {J : Nat → Int64} {Q : Option Value → HP → Prop} {F : Nat → HP → RS} {i : Int32} (h : inb i 7) : wp (aR 33 4 i F) Q (M I J) = wp (F (34 + 2 * ix i)) Q (M I J) := wx_aR (c := 33) (t := 4) (n := 7) (d := fun k => 34 + 2 * k) rfl h (fun k hk => by simp [qf, hk])
theorem l_33 {I : Mem} {J : Nat → Int64} {Q : Option Value → HP → Prop} {F : Int32 → HP → RS} : wp (aLQ 33 4 F) Q (M I J) = wp (F (ii 7)) Q (M I J) := wp_aLQ (t := 4) (n := 7) rfl
theorem r_48 {I : Mem} {J : Nat → Int64} {Q : Option Value → HP → Prop} {F : Nat → HP → RS} {i : Int32} (h : inb i 5) : wp (aR 48 2 i F) Q (M I J) = wp (F (49 + ix i)) Q (M I J) := wx_aR (c := 48) (t := 2) (n := 5) (d := fun k => 49 + k) rfl h (fun k hk => by simp [qf, hk])
theorem l_48 {I : Mem} {J : Nat → Int64} {Q : Option Value → HP → Prop} {F : Int32 → HP → RS} : wp (aLQ 48 2 F) Q (M I J) = wp (F (ii 5)) Q (M I J) := wp_aLQ (t := 2) (n := 5) rfl
theorem r_65 {I : Mem} {J : Nat → Int64} {Q : Option Value → HP → Prop} {F : Nat → HP → RS} {i : Int32} (h : inb i 4) : wp (aR 65 3 i F) Q (M I J) = wp (F (66 + 2 * ix i)) Q (M I J) := wx_aR (c := 65) (t := 3) (n := 4) (d := fun k => 66 + 2 * k) rfl h (fun k hk => by simp [qf, hk])
theorem l_65 {I : Mem} {J : Nat → Int64} {Q : Option Value → HP → Prop} {F : Int32 → HP → RS} : wp (aLQ 65 3 F) Q (M I J) = wp (F (ii 4)) Q (M I J) := wp_aLQ (t := 3) (n := 4) rfl
theorem h_o {I : Mem} {J : Nat → Int64} {Q : Option Value → HP → Prop} {c : Nat} {F : HP → RS} (hc : hpc c = true) : wp (obT c 3 F) Q (M I J) = wp F Q (M I J) := wp_ob (pI_O (hpc_use hc).1)
theorem h_i1 {I : Mem} {J : Nat → Int64} {Q : Option Value → HP → Prop} {c : Nat} {F : Int32 → HP → RS} (hc : hpc c = true) : wp (rI c 3 1 F) Q (M I J) = wp (F (I c 1)) Q (M I J) := wp_rI (hpc_use hc).1
theorem h_w1 {I : Mem} {J : Nat → Int64} {Q : Option Value → HP → Prop} {c : Nat} {F : HP → RS} {v : Int32} (hc : hpc c = true) : wp (wF c 3 1 (.int v) F) Q (M I J) = wp F Q (M (st I c 1 v) J) := wp_wI (hpc_use hc).1
theorem h_i2 {I : Mem} {J : Nat → Int64} {Q : Option Value → HP → Prop} {c : Nat} {F : Int32 → HP → RS} (hc : hpc c = true) : wp (rI c 3 2 F) Q (M I J) = wp (F (I c 2)) Q (M I J) := wp_rI (hpc_use hc).2.1
theorem h_w2 {I : Mem} {J : Nat → Int64} {Q : Option Value → HP → Prop} {c : Nat} {F : HP → RS} {v : Int32} (hc : hpc c = true) : wp (wF c 3 2 (.int v) F) Q (M I J) = wp F Q (M (st I c 2 v) J) := wp_wI (hpc_use hc).2.1
theorem h_r0 {I : Mem} {J : Nat → Int64} {Q : Option Value → HP → Prop} {c : Nat} {F : Nat → HP → RS} (hc : hpc c = true) : wp (rR c 3 0 F) Q (M I J) = wp (F (c + 1)) Q (M I J) := wp_rR (hpc_use hc).2.2.1
theorem h_a0 {I : Mem} {J : Nat → Int64} {Q : Option Value → HP → Prop} {c : Nat} {F : Int32 → HP → RS} {i : Int32} (hc : hpc c = true) (h : inb i 24) : wp (aI (c + 1) 0 i F) Q (M I J) = wp (F (I (c + 1) (ix i))) Q (M I J) := wx_aI (t := 0) (n := 24) (hpc_use hc).2.2.2 h
theorem h_s0 {I : Mem} {J : Nat → Int64} {Q : Option Value → HP → Prop} {c : Nat} {F : HP → RS} {i : Int32} {v : Int32} (hc : hpc c = true) (h : inb i 24) : wp (sI (c + 1) 0 i v F) Q (M I J) = wp F Q (M (st I (c + 1) (ix i) v) J) := wx_sI (t := 0) (n := 24) (hpc_use hc).2.2.2 h
theorem h_l0 {I : Mem} {J : Nat → Int64} {Q : Option Value → HP → Prop} {c : Nat} {F : Int32 → HP → RS} (hc : hpc c = true) : wp (aLI (c + 1) 0 F) Q (M I J) = wp (F (ii 24)) Q (M I J) := wp_aL (t := 0) (n := 24) (hpc_use hc).2.2.2
theorem sh_o {I : Mem} {J : Nat → Int64} {Q : Option Value → HP → Prop} {c : Nat} {F : HP → RS} (hc : shc c = true) : wp (obT c 5 F) Q (M I J) = wp F Q (M I J) := wp_ob (pI_O (shc_use hc).1)
theorem sh_i1 {I : Mem} {J : Nat → Int64} {Q : Option Value → HP → Prop} {c : Nat} {F : Int32 → HP → RS} (hc : shc c = true) : wp (rI c 5 1 F) Q (M I J) = wp (F (I c 1)) Q (M I J) := wp_rI (shc_use hc).1
theorem sh_w1 {I : Mem} {J : Nat → Int64} {Q : Option Value → HP → Prop} {c : Nat} {F : HP → RS} {v : Int32} (hc : shc c = true) : wp (wF c 5 1 (.int v) F) Q (M I J) = wp F Q (M (st I c 1 v) J) := wp_wI (shc_use hc).1
theorem sh_i2 {I : Mem} {J : Nat → Int64} {Q : Option Value → HP → Prop} {c : Nat} {F : Int32 → HP → RS} (hc : shc c = true) : wp (rI c 5 2 F) Q (M I J) = wp (F (I c 2)) Q (M I J) := wp_rI (shc_use hc).2.1
theorem sh_w2 {I : Mem} {J : Nat → Int64} {Q : Option Value → HP → Prop} {c : Nat} {F : HP → RS} {v : Int32} (hc : shc c = true) : wp (wF c 5 2 (.int v) F) Q (M I J) = wp F Q (M (st I c 2 v) J) := wp_wI (shc_use hc).2.1
theorem sh_r0 {I : Mem} {J : Nat → Int64} {Q : Option Value → HP → Prop} {c : Nat} {F : Nat → HP → RS} (hc : shc c = true) : wp (rR c 5 0 F) Q (M I J) = wp (F (c + 1)) Q (M I J) := wp_rR (shc_use hc).2.2.1
theorem sh_a0 {I : Mem} {J : Nat → Int64} {Q : Option Value → HP → Prop} {c : Nat} {F : Int32 → HP → RS} {i : Int32} (hc : shc c = true) (h : inb i 24) : wp (aI (c + 1) 0 i F) Q (M I J) = wp (F (I (c + 1) (ix i))) Q (M I J) := wx_aI (t := 0) (n := 24) (shc_use hc).2.2.2 h
theorem sh_s0 {I : Mem} {J : Nat → Int64} {Q : Option Value → HP → Prop} {c : Nat} {F : HP → RS} {i : Int32} {v : Int32} (hc : shc c = true) (h : inb i 24) : wp (sI (c + 1) 0 i v F) Q (M I J) = wp F Q (M (st I (c + 1) (ix i) v) J) := wx_sI (t := 0) (n := 24) (shc_use hc).2.2.2 h
theorem sh_l0 {I : Mem} {J : Nat → Int64} {Q : Option Value → HP → Prop} {c : Nat} {F : Int32 → HP → RS} (hc : shc c = true) : wp (aLI (c + 1) 0 F) Q (M I J) = wp (F (ii 24)) Q (M I J) := wp_aL (t := 0) (n := 24) (shc_use hc).2.2.2
theorem tx_o {I : Mem} {J : Nat → Int64} {Q : Option Value → HP → Prop} {c : Nat} {F : HP → RS} (hc : txc c = true) : wp (obT c 6 F) Q (M I J) = wp F Q (M I J) := wp_ob (pI_O (txc_use hc).1)
theorem tx_i2 {I : Mem} {J : Nat → Int64} {Q : Option Value → HP → Prop} {c : Nat} {F : Int32 → HP → RS} (hc : txc c = true) : wp (rI c 6 2 F) Q (M I J) = wp (F (I c 2)) Q (M I J) := wp_rI (txc_use hc).1
theorem tx_w2 {I : Mem} {J : Nat → Int64} {Q : Option Value → HP → Prop} {c : Nat} {F : HP → RS} {v : Int32} (hc : txc c = true) : wp (wF c 6 2 (.int v) F) Q (M I J) = wp F Q (M (st I c 2 v) J) := wp_wI (txc_use hc).1
theorem tx_r0 {I : Mem} {J : Nat → Int64} {Q : Option Value → HP → Prop} {c : Nat} {F : Nat → HP → RS} (hc : txc c = true) : wp (rR c 6 0 F) Q (M I J) = wp (F (c + 1)) Q (M I J) := wp_rR (txc_use hc).2.1
theorem tx_a0 {I : Mem} {J : Nat → Int64} {Q : Option Value → HP → Prop} {c : Nat} {F : Int32 → HP → RS} {i : Int32} (hc : txc c = true) (h : inb i 60) : wp (aI (c + 1) 0 i F) Q (M I J) = wp (F (I (c + 1) (ix i))) Q (M I J) := wx_aI (t := 0) (n := 60) (txc_use hc).2.2.2.1 h
theorem tx_s0 {I : Mem} {J : Nat → Int64} {Q : Option Value → HP → Prop} {c : Nat} {F : HP → RS} {i : Int32} {v : Int32} (hc : txc c = true) (h : inb i 60) : wp (sI (c + 1) 0 i v F) Q (M I J) = wp F Q (M (st I (c + 1) (ix i) v) J) := wx_sI (t := 0) (n := 60) (txc_use hc).2.2.2.1 h
theorem tx_l0 {I : Mem} {J : Nat → Int64} {Q : Option Value → HP → Prop} {c : Nat} {F : Int32 → HP → RS} (hc : txc c = true) : wp (aLI (c + 1) 0 F) Q (M I J) = wp (F (ii 60)) Q (M I J) := wp_aL (t := 0) (n := 60) (txc_use hc).2.2.2.1
theorem tx_r1 {I : Mem} {J : Nat → Int64} {Q : Option Value → HP → Prop} {c : Nat} {F : Nat → HP → RS} (hc : txc c = true) : wp (rR c 6 1 F) Q (M I J) = wp (F (c + 2)) Q (M I J) := wp_rR (txc_use hc).2.2.1
theorem tx_a1 {I : Mem} {J : Nat → Int64} {Q : Option Value → HP → Prop} {c : Nat} {F : Int32 → HP → RS} {i : Int32} (hc : txc c = true) (h : inb i 60) : wp (aI (c + 2) 0 i F) Q (M I J) = wp (F (I (c + 2) (ix i))) Q (M I J) := wx_aI (t := 0) (n := 60) (txc_use hc).2.2.2.2 h
theorem tx_s1 {I : Mem} {J : Nat → Int64} {Q : Option Value → HP → Prop} {c : Nat} {F : HP → RS} {i : Int32} {v : Int32} (hc : txc c = true) (h : inb i 60) : wp (sI (c + 2) 0 i v F) Q (M I J) = wp F Q (M (st I (c + 2) (ix i) v) J) := wx_sI (t := 0) (n := 60) (txc_use hc).2.2.2.2 h
theorem tx_l1 {I : Mem} {J : Nat → Int64} {Q : Option Value → HP → Prop} {c : Nat} {F : Int32 → HP → RS} (hc : txc c = true) : wp (aLI (c + 2) 0 F) Q (M I J) = wp (F (ii 60)) Q (M I J) := wp_aL (t := 0) (n := 60) (txc_use hc).2.2.2.2
theorem hpc_3 : hpc 3 = true := rfl
theorem hpc_17 : hpc 17 = true := rfl
theorem hpc_34 : hpc 34 = true := rfl
theorem hpc_36 : hpc 36 = true := rfl
theorem hpc_38 : hpc 38 = true := rfl
theorem hpc_40 : hpc 40 = true := rfl
theorem hpc_42 : hpc 42 = true := rfl
theorem hpc_44 : hpc 44 = true := rfl
theorem hpc_46 : hpc 46 = true := rfl
theorem shc_66 : shc 66 = true := rfl
theorem shc_68 : shc 68 = true := rfl
theorem shc_70 : shc 70 = true := rfl
theorem shc_72 : shc 72 = true := rfl
theorem txc_6 : txc 6 = true := rfl
theorem txc_9 : txc 9 = true := rfl
theorem txc_20 : txc 20 = true := rfl
theorem txc_23 : txc 23 = true := rfl
theorem txc_60 : txc 60 = true := rfl
