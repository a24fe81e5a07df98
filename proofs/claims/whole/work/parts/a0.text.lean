def lk (n : Nat) (B : Nat → Nat) (p : Nat) : Int := if p < n then (B p : Int) else -1
def sg (lev : Nat) (c : Int) : Bool := if lev = 0 then decide (c = 124) else if lev = 1 then decide (c = 38) else if lev = 2 then decide (c = 60 ∨ c = 61 ∨ c = 62) else if lev = 3 then decide (c = 43 ∨ c = 45) else decide (c = 42 ∨ c = 47 ∨ c = 37)
def lps (T : Nat → Int) (lev : Nat) (P : Nat → List (Nat × Nat) → Bool × Nat × List (Nat × Nat)) : Nat → Nat → List (Nat × Nat) → Bool × Nat × List (Nat × Nat)
  | 0, p, ts => (true, p, ts)
  | m + 1, p, ts => if sg lev (T p) = true then (if (P (p + 1) ts).1 = true then lps T lev P m (P (p + 1) ts).2.1 ((P (p + 1) ts).2.2 ++ [(3, (T p).toNat)]) else (false, (P (p + 1) ts).2)) else (true, p, ts)
def nmb (T : Nat → Int) : Nat → Nat → Nat → Nat × Nat
  | 0, p, v => (p, v)
  | k + 1, p, v => if 48 ≤ T p ∧ T p ≤ 57 then nmb T k (p + 1) (10 * v + (T p).toNat - 48) else (p, v)
def nmOK (u : Nat) (c : Int) : Bool := if u = 0 then decide (c = 119 ∨ c = 108 ∨ c = 107 ∨ c = 109) else decide (c = 115 ∨ c = 119 ∨ c = 116)
def lvl (T : Nat → Int) (lev : Nat) (P : Nat → List (Nat × Nat) → Bool × Nat × List (Nat × Nat)) (p : Nat) (ts : List (Nat × Nat)) : Bool × Nat × List (Nat × Nat) := if (P p ts).1 = true then lps T lev P (if lev = 2 then 1 else 60) (P p ts).2.1 (P p ts).2.2 else (false, (P p ts).2)
def unt (T : Nat → Int) (u o : Nat) (PN PW : Nat → List (Nat × Nat) → Bool × Nat × List (Nat × Nat)) (p : Nat) (ts : List (Nat × Nat)) : Bool × Nat × List (Nat × Nat) :=
  if T p = 33 then (if o < 5 then (if (PN (p + 1) ts).1 = true then (true, (PN (p + 1) ts).2.1, (PN (p + 1) ts).2.2 ++ [(2, 0)]) else (false, (PN (p + 1) ts).2)) else (false, p, ts))
  else if T p = 40 then (if o < 5 then (if (PW (p + 1) ts).1 = true ∧ T (PW (p + 1) ts).2.1 = 41 then (true, (PW (p + 1) ts).2.1 + 1, (PW (p + 1) ts).2.2) else (false, (PW (p + 1) ts).2)) else (false, p, ts))
  else if 48 ≤ T p ∧ T p ≤ 57 then (true, (nmb T 4 p 0).1, ts ++ [(0, (nmb T 4 p 0).2)])
  else if nmOK u (T p) = true then (true, p + 1, ts ++ [(1, (T p).toNat)]) else (false, p, ts)
def rd (T : Nat → Int) (u : Nat) : Nat → Nat → Nat → Nat → List (Nat × Nat) → Bool × Nat × List (Nat × Nat)
  | 0, _, _, p, ts => (false, p, ts)
  | f + 1, lev, o, p, ts => if lev < 5 then lvl T lev (rd T u f (lev + 1) o) p ts else unt T u o (rd T u f 5 (o + 1)) (rd T u f 0 (o + 1)) p ts
section
variable {n : Nat} {B : Nat → Nat}
theorem lk_bd (hB : ∀ j, j < n → B j ≤ 255) (p : Nat) : -1 ≤ lk n B p ∧ lk n B p ≤ 255 := by
  unfold lk
  split
  · have := hB p (by assumption)
    omega
  · omega
theorem lk_in {p : Nat} (h : lk n B p ≠ -1) : p < n := by
  unfold lk at h
  split at h
  · assumption
  · exact absurd rfl h
theorem sg_in {lev : Nat} {c : Int} (h : sg lev c = true) : c = 124 ∨ c = 38 ∨ c = 60 ∨ c = 61 ∨ c = 62 ∨ c = 43 ∨ c = 45 ∨ c = 42 ∨ c = 47 ∨ c = 37 := by
  unfold sg at h
  split at h
  · have := of_decide_eq_true h
    omega
  · split at h
    · have := of_decide_eq_true h
      omega
    · split at h
      · have := of_decide_eq_true h
        omega
      · split at h
        · have := of_decide_eq_true h
          omega
        · have := of_decide_eq_true h
          omega
def OKR (u n p : Nat) (ts : List (Nat × Nat)) (r : Bool × Nat × List (Nat × Nat)) : Prop := p ≤ r.2.1 ∧ r.2.1 ≤ n ∧ (r.1 = true → ∃ nw, r.2.2 = ts ++ nw ∧ nw.length + p ≤ r.2.1 ∧ (∀ rest d, okT (nw ++ rest) d = okT rest (d + 1)) ∧ ∀ x, x ∈ nw → tkOK u x = true)
def OKP (u n : Nat) (P : Nat → List (Nat × Nat) → Bool × Nat × List (Nat × Nat)) : Prop := ∀ p ts, p ≤ n → OKR u n p ts (P p ts)
def OKS (u n p : Nat) (ts : List (Nat × Nat)) (r : Bool × Nat × List (Nat × Nat)) : Prop := p ≤ r.2.1 ∧ r.2.1 ≤ n ∧ (r.1 = true → ∃ nw, r.2.2 = ts ++ nw ∧ nw.length + p ≤ r.2.1 ∧ (∀ rest d, okT (nw ++ rest) (d + 1) = okT rest (d + 1)) ∧ ∀ x, x ∈ nw → tkOK u x = true)
theorem sgn_in {c : Int} (h : c = 124 ∨ c = 38 ∨ c = 60 ∨ c = 61 ∨ c = 62 ∨ c = 43 ∨ c = 45 ∨ c = 42 ∨ c = 47 ∨ c = 37) {u : Nat} : tkOK u (3, c.toNat) = true := by
  rcases h with rfl | rfl | rfl | rfl | rfl | rfl | rfl | rfl | rfl | rfl <;> rfl
theorem lps_ok {u lev : Nat} {P : Nat → List (Nat × Nat) → Bool × Nat × List (Nat × Nat)} (hP : OKP u n P) : ∀ m p ts, p ≤ n → OKS u n p ts (lps (lk n B) lev P m p ts)
  | 0, p, ts, hp => ⟨Nat.le_refl _, hp, fun _ => ⟨[], by rw [List.append_nil]; rfl, by simp [lps], fun rest d => rfl, fun x hx => by simp at hx⟩⟩
  | m + 1, p, ts, hp => by
    unfold lps
    by_cases c : sg lev (lk n B p) = true
    · rw [if_pos c]
      have hin : p < n := lk_in (B := B) (fun q => by have := sg_in c; omega)
      obtain ⟨a1, a2, a3⟩ := hP (p + 1) ts (by omega)
      by_cases c2 : (P (p + 1) ts).1 = true
      · rw [if_pos c2]
        obtain ⟨nw, b1, b2, b3, b4⟩ := a3 c2
        obtain ⟨d1, d2, d3⟩ := lps_ok (lev := lev) hP m (P (p + 1) ts).2.1 ((P (p + 1) ts).2.2 ++ [(3, (lk n B p).toNat)]) a2
        refine ⟨by omega, d2, fun h => ?_⟩
        obtain ⟨nw2, e1, e2, e3, e4⟩ := d3 h
        refine ⟨nw ++ ([(3, (lk n B p).toNat)] ++ nw2), ?_, ?_, fun rest d => ?_, fun x hx => ?_⟩
        · rw [e1, b1]; simp [List.append_assoc]
        · rw [List.length_append, List.length_append, List.length_singleton]; omega
        · rw [List.append_assoc, b3, List.append_assoc]
          have q : okT ([(3, (lk n B p).toNat)] ++ (nw2 ++ rest)) (d + 1 + 1) = (Nat.ble 2 (d + 1 + 1) && okT (nw2 ++ rest) (d + 1)) := rfl
          have q2 : Nat.ble 2 (d + 1 + 1) = true := Nat.ble_eq_true_of_le (by omega)
          rw [q, q2, e3]; rfl
        · rw [List.mem_append, List.mem_append, List.mem_singleton] at hx
          rcases hx with hx | rfl | hx
          · exact b4 x hx
          · exact sgn_in (sg_in c)
          · exact e4 x hx
      · rw [if_neg c2]
        exact ⟨by show p ≤ (P (p + 1) ts).2.1; omega, a2, fun h => by cases h⟩
    · rw [if_neg c]
      exact ⟨Nat.le_refl _, hp, fun _ => ⟨[], by rw [List.append_nil], by simp, fun rest d => rfl, fun x hx => by simp at hx⟩⟩
theorem lvl_ok {u lev : Nat} {P : Nat → List (Nat × Nat) → Bool × Nat × List (Nat × Nat)} (hP : OKP u n P) : OKP u n (lvl (lk n B) lev P) := by
  intro p ts hp
  obtain ⟨a1, a2, a3⟩ := hP p ts hp
  unfold lvl
  by_cases c : (P p ts).1 = true
  · rw [if_pos c]
    obtain ⟨nw, b1, b2, b3, b4⟩ := a3 c
    obtain ⟨d1, d2, d3⟩ := lps_ok (B := B) (lev := lev) hP (if lev = 2 then 1 else 60) (P p ts).2.1 (P p ts).2.2 a2
    refine ⟨by omega, d2, fun h => ?_⟩
    obtain ⟨nw2, e1, e2, e3, e4⟩ := d3 h
    refine ⟨nw ++ nw2, by rw [e1, b1, List.append_assoc], by rw [List.length_append]; omega, fun rest d => by rw [List.append_assoc, b3, e3], fun x hx => ?_⟩
    rw [List.mem_append] at hx
    exact hx.elim (b4 x) (e4 x)
  · rw [if_neg c]
    exact ⟨a1, a2, fun h => by cases h⟩
theorem nmb_ok (hB : ∀ j, j < n → B j ≤ 255) : ∀ k p v i, i + k = 4 → v < pw 10 i → p ≤ n → p ≤ (nmb (lk n B) k p v).1 ∧ (nmb (lk n B) k p v).1 ≤ n ∧ (nmb (lk n B) k p v).2 < 10000
  | 0, p, v, i, hi, hv, hp => by
    obtain rfl : i = 4 := by omega
    exact ⟨Nat.le_refl _, hp, hv⟩
  | k + 1, p, v, i, hi, hv, hp => by
    unfold nmb
    by_cases c : 48 ≤ lk n B p ∧ lk n B p ≤ 57
    · rw [if_pos c]
      have hin : p < n := lk_in (B := B) (by omega)
      have e : pw 10 (i + 1) = pw 10 i * 10 := rfl
      have := nmb_ok hB k (p + 1) (10 * v + (lk n B p).toNat - 48) (i + 1) (by omega) (by omega) (by omega)
      omega
    · rw [if_neg c]
      refine ⟨Nat.le_refl _, hp, ?_⟩
      have : pw 10 i ≤ 10000 := by
        match i, (show i ≤ 4 by omega) with
        | 0, _ => decide
        | 1, _ => decide
        | 2, _ => decide
        | 3, _ => decide
        | 4, _ => decide
        | i + 5, h => omega
      show v < 10000
      omega
theorem okT_1 {x : Nat × Nat} (h : x.1 ≤ 1) (rest : List (Nat × Nat)) (d : Nat) : okT ([x] ++ rest) d = okT rest (d + 1) := by
  show (if x.1 ≤ 1 then okT rest (d + 1) else _) = _
  rw [if_pos h]
theorem unt_ok (hB : ∀ j, j < n → B j ≤ 255) {u o : Nat} (hu : u < 2) {PN PW : Nat → List (Nat × Nat) → Bool × Nat × List (Nat × Nat)} (hN : OKP u n PN) (hW : OKP u n PW) : OKP u n (unt (lk n B) u o PN PW) := by
  intro p ts hp
  have bad : OKR u n p ts (false, p, ts) := ⟨Nat.le_refl _, hp, fun h => by cases h⟩
  unfold unt
  by_cases c1 : lk n B p = 33
  · rw [if_pos c1]
    have hin : p < n := lk_in (B := B) (by omega)
    by_cases c2 : o < 5
    · rw [if_pos c2]
      obtain ⟨a1, a2, a3⟩ := hN (p + 1) ts (by omega)
      by_cases c3 : (PN (p + 1) ts).1 = true
      · rw [if_pos c3]
        obtain ⟨nw, b1, b2, b3, b4⟩ := a3 c3
        refine ⟨by show p ≤ (PN (p + 1) ts).2.1; omega, a2, fun _ => ⟨nw ++ [(2, 0)], by show (PN (p + 1) ts).2.2 ++ [(2, 0)] = _; rw [b1, List.append_assoc], by rw [List.length_append, List.length_singleton]; show nw.length + 1 + p ≤ (PN (p + 1) ts).2.1; omega, fun rest d => ?_, fun x hx => ?_⟩⟩
        · rw [List.append_assoc, b3]
          have q : okT ([(2, 0)] ++ rest) (d + 1) = (Nat.ble 1 (d + 1) && okT rest (d + 1)) := rfl
          have q2 : Nat.ble 1 (d + 1) = true := Nat.ble_eq_true_of_le (by omega)
          rw [q, q2]; rfl
        · rw [List.mem_append, List.mem_singleton] at hx
          rcases hx with hx | rfl
          · exact b4 x hx
          · rfl
      · rw [if_neg c3]
        exact ⟨by show p ≤ (PN (p + 1) ts).2.1; omega, a2, fun h => by cases h⟩
    · rw [if_neg c2]; exact bad
  · rw [if_neg c1]
    by_cases c4 : lk n B p = 40
    · rw [if_pos c4]
      have hin : p < n := lk_in (B := B) (by omega)
      by_cases c2 : o < 5
      · rw [if_pos c2]
        obtain ⟨a1, a2, a3⟩ := hW (p + 1) ts (by omega)
        by_cases c3 : (PW (p + 1) ts).1 = true ∧ lk n B (PW (p + 1) ts).2.1 = 41
        · rw [if_pos c3]
          obtain ⟨nw, b1, b2, b3, b4⟩ := a3 c3.1
          have hin2 : (PW (p + 1) ts).2.1 < n := lk_in (B := B) (by omega)
          exact ⟨by show p ≤ (PW (p + 1) ts).2.1 + 1; omega, by show (PW (p + 1) ts).2.1 + 1 ≤ n; omega, fun _ => ⟨nw, b1, by show nw.length + p ≤ (PW (p + 1) ts).2.1 + 1; omega, b3, b4⟩⟩
        · rw [if_neg c3]
          exact ⟨by show p ≤ (PW (p + 1) ts).2.1; omega, a2, fun h => by cases h⟩
      · rw [if_neg c2]; exact bad
    · rw [if_neg c4]
      by_cases c5 : 48 ≤ lk n B p ∧ lk n B p ≤ 57
      · rw [if_pos c5]
        have hin : p < n := lk_in (B := B) (by omega)
        have e : nmb (lk n B) 4 p 0 = nmb (lk n B) 3 (p + 1) (10 * 0 + (lk n B p).toNat - 48) := if_pos c5
        have e1 : pw 10 1 = 10 := rfl
        have q := nmb_ok hB 3 (p + 1) (10 * 0 + (lk n B p).toNat - 48) 1 (by omega) (by omega) (by omega)
        rw [← e] at q
        refine ⟨by show p ≤ (nmb (lk n B) 4 p 0).1; omega, q.2.1, fun _ => ⟨[(0, (nmb (lk n B) 4 p 0).2)], rfl, by show 1 + p ≤ (nmb (lk n B) 4 p 0).1; omega, okT_1 (Nat.zero_le _), fun x hx => ?_⟩⟩
        rw [List.mem_singleton] at hx
        subst hx
        have q2 : Nat.blt (nmb (lk n B) 4 p 0).2 10000 = true := by
          unfold Nat.blt
          exact Nat.ble_eq_true_of_le q.2.2
        unfold tkOK
        dsimp only
        rw [q2]; rfl
      · rw [if_neg c5]
        by_cases c6 : nmOK u (lk n B p) = true
        · rw [if_pos c6]
          have hc : (u = 0 ∧ (lk n B p = 119 ∨ lk n B p = 108 ∨ lk n B p = 107 ∨ lk n B p = 109)) ∨ (u = 1 ∧ (lk n B p = 115 ∨ lk n B p = 119 ∨ lk n B p = 116)) := by
            unfold nmOK at c6
            by_cases c7 : u = 0
            · rw [if_pos c7] at c6
              exact Or.inl ⟨c7, of_decide_eq_true c6⟩
            · rw [if_neg c7] at c6
              exact Or.inr ⟨by omega, of_decide_eq_true c6⟩
          have hin : p < n := lk_in (B := B) (by omega)
          refine ⟨by show p ≤ p + 1; omega, by show p + 1 ≤ n; omega, fun _ => ⟨[(1, (lk n B p).toNat)], rfl, by show 1 + p ≤ p + 1; omega, okT_1 (Nat.le_refl _), fun x hx => ?_⟩⟩
          rw [List.mem_singleton] at hx
          subst hx
          rcases hc with ⟨rfl, h | h | h | h⟩ | ⟨rfl, h | h | h⟩ <;> (rw [h]; rfl)
        · rw [if_neg c6]; exact bad
theorem rd_ok (hB : ∀ j, j < n → B j ≤ 255) {u : Nat} (hu : u < 2) : ∀ f lev o, OKP u n (rd (lk n B) u f lev o)
  | 0, lev, o => fun p ts hp => ⟨Nat.le_refl _, hp, fun h => by cases h⟩
  | f + 1, lev, o => fun p ts hp => by
    unfold rd
    by_cases c : lev < 5
    · rw [if_pos c]
      exact lvl_ok (rd_ok hB hu f (lev + 1) o) p ts hp
    · rw [if_neg c]
      exact unt_ok hB hu (rd_ok hB hu f 5 (o + 1)) (rd_ok hB hu f 0 (o + 1)) p ts hp
end
