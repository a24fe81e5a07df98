section
variable (W : Nat → Nat) (tg : Int → Int → Nat → Bool)
def wpl (hs : List Nat) (p : Nat) : Nat := W (hs.getD p 0 / 2)
def tot (hs : List Nat) : List Nat → Nat
  | [] => 0
  | p :: gs => wpl W hs p + tot hs gs
theorem tot_app {hs : List Nat} {p : Nat} : ∀ {gs : List Nat}, tot W hs (gs ++ [p]) = tot W hs gs + wpl W hs p
  | [] => by simp [tot]
  | q :: gs => by
    show wpl W hs q + tot W hs (gs ++ [p]) = wpl W hs q + tot W hs gs + wpl W hs p
    rw [tot_app]; omega
def ky (kd : Nat) (hs : List Nat) (p : Nat) : Nat := if kd = 2 ∨ kd = 5 then hs.length - 1 - p else if kd = 3 then 32 * wpl W hs p + p else p
def plk (kd : Nat) (hs : List Nat) (k : Nat) : Option Nat := if kd = 2 ∨ kd = 5 then (if k < hs.length then some (hs.length - 1 - k) else none) else if kd = 3 then (if k % 32 < hs.length ∧ wpl W hs (k % 32) = k / 32 then some (k % 32) else none) else if k < hs.length then some k else none
theorem plk_iff {kd : Nat} {hs : List Nat} (hl : hs.length ≤ 24) {k p : Nat} : plk W kd hs k = some p ↔ p < hs.length ∧ ky W kd hs p = k := by
  unfold plk ky
  split
  · split
    · constructor
      · intro h; cases h; omega
      · intro h; exact congrArg some (by omega)
    · constructor
      · intro h; cases h
      · intro h; omega
  · split
    · split
      · constructor
        · intro h
          have h : k % 32 = p := by cases h; rfl
          subst h
          omega
        · intro h
          exact congrArg some (by omega)
      · rename_i h0
        constructor
        · intro h; cases h
        · rintro ⟨h1, h2⟩
          refine absurd ⟨?_, ?_⟩ h0
          · omega
          · rw [show k % 32 = p by omega]; omega
    · split
      · constructor
        · intro h; cases h; exact ⟨by assumption, rfl⟩
        · intro h; exact congrArg some h.2.symm
      · constructor
        · intro h; cases h
        · intro h; omega
def gvs (kd : Nat) (w l : Int) (k : Nat) : Bool := if kd = 6 then tg w l k else if kd = 3 ∨ kd = 5 then decide (w ≤ l) else true
def proc (kd : Nat) (due : Int) (hs : List Nat) : Nat → List Nat → List Nat
  | 0, gs => gs
  | k + 1, gs => if due ≤ tot W hs gs then gs else match plk W kd hs k with
    | none => proc kd due hs k gs
    | some p => if kd = 4 ∧ due - tot W hs gs < wpl W hs p then gs else if gvs tg kd (wpl W hs p) (due - tot W hs gs) gs.length = true then proc kd due hs k (gs ++ [p]) else proc kd due hs k gs
theorem proc_done {kd : Nat} {due : Int} {hs gs : List Nat} (h : due ≤ tot W hs gs) : ∀ k, proc W tg kd due hs k gs = gs
  | 0 => rfl
  | k + 1 => by unfold proc; rw [if_pos h]
theorem proc_skip {kd : Nat} {due : Int} {hs gs : List Nat} (hl : hs.length ≤ 24) {k' : Nat} : ∀ k, k' ≤ k → (∀ p, p < hs.length → k' ≤ ky W kd hs p → ky W kd hs p < k → False) → proc W tg kd due hs k gs = proc W tg kd due hs k' gs
  | 0, h, _ => by rw [show k' = 0 by omega]
  | k + 1, h, hn => by
    by_cases e : k' = k + 1
    · rw [e]
    · have ih := proc_skip (kd := kd) (due := due) (gs := gs) hl k (by omega) (fun p a b c => hn p a b (by omega))
      by_cases hd : due ≤ tot W hs gs
      · rw [proc_done _ _ hd, proc_done _ _ hd]
      · conv => lhs; unfold proc
        rw [if_neg hd]
        cases hp : plk W kd hs k with
        | none => exact ih
        | some p =>
          obtain ⟨a, b⟩ := (plk_iff W hl).mp hp
          exact (hn p a (by omega) (by omega)).elim
theorem proc_noop {due : Int} {hs gs : List Nat} (hl : hs.length ≤ 24) {k' : Nat} : ∀ k, k' ≤ k → (∀ p, p < hs.length → k' ≤ ky W 3 hs p → ky W 3 hs p < k → due - tot W hs gs < wpl W hs p) → proc W tg 3 due hs k gs = proc W tg 3 due hs k' gs
  | 0, h, _ => by rw [show k' = 0 by omega]
  | k + 1, h, hn => by
    by_cases e : k' = k + 1
    · rw [e]
    · have ih := proc_noop (due := due) (gs := gs) hl k (by omega) (fun p a b c => hn p a b (by omega))
      by_cases hd : due ≤ tot W hs gs
      · rw [proc_done _ _ hd, proc_done _ _ hd]
      · conv => lhs; unfold proc
        rw [if_neg hd]
        cases hp : plk W 3 hs k with
        | none => exact ih
        | some p =>
          obtain ⟨a, b⟩ := (plk_iff W hl).mp hp
          have := hn p a (by omega) (by omega)
          have g : gvs tg 3 (wpl W hs p) (due - tot W hs gs) gs.length = false := by
            unfold gvs
            rw [if_neg (by omega), if_pos (by omega)]
            exact decide_eq_false (by omega)
          simp only [show ¬ ((3 : Nat) = 4 ∧ due - (tot W hs gs : Int) < wpl W hs p) by omega, if_false, g, Bool.false_eq_true]
          exact ih
theorem proc_at {kd : Nat} {due : Int} {hs gs : List Nat} (hl : hs.length ≤ 24) {p : Nat} (hp : p < hs.length) (hd : ¬ due ≤ tot W hs gs) : proc W tg kd due hs (ky W kd hs p + 1) gs = if kd = 4 ∧ due - tot W hs gs < wpl W hs p then gs else if gvs tg kd (wpl W hs p) (due - tot W hs gs) gs.length = true then proc W tg kd due hs (ky W kd hs p) (gs ++ [p]) else proc W tg kd due hs (ky W kd hs p) gs := by
  conv => lhs; unfold proc
  rw [if_neg hd, (plk_iff W hl).mpr ⟨hp, rfl⟩]
def cn (gs : List Nat) : Nat → Nat
  | 0 => 0
  | n + 1 => cn gs n + (if n ∈ gs then 0 else 1)
theorem cn_nil : ∀ n, cn [] n = n
  | 0 => rfl
  | n + 1 => by show cn [] n + (if n ∈ [] then 0 else 1) = n + 1; rw [cn_nil n]; simp
theorem cn_app_ge {gs : List Nat} {p : Nat} : ∀ n, n ≤ p → cn (gs ++ [p]) n = cn gs n
  | 0, _ => rfl
  | n + 1, h => by
    show cn (gs ++ [p]) n + (if n ∈ gs ++ [p] then 0 else 1) = cn gs n + (if n ∈ gs then 0 else 1)
    rw [cn_app_ge n (by omega)]
    have : n ≠ p := by omega
    simp [this]
theorem cn_app {gs : List Nat} {p : Nat} (hp : p ∉ gs) : ∀ n, p < n → cn (gs ++ [p]) n + 1 = cn gs n
  | 0, h => by omega
  | n + 1, h => by
    show cn (gs ++ [p]) n + (if n ∈ gs ++ [p] then 0 else 1) + 1 = cn gs n + (if n ∈ gs then 0 else 1)
    by_cases e : p = n
    · subst e
      rw [cn_app_ge _ (Nat.le_refl _)]
      simp [hp]
    · have := cn_app (gs := gs) hp n (by omega)
      have h2 : n ≠ p := fun q => e q.symm
      simp [h2]
      omega
def gOK (kd : Nat) (hs gs : List Nat) (k : Nat) : Prop := (∀ q, q ∈ gs → q < hs.length ∧ k ≤ ky W kd hs q) ∧ gs.length + cn gs hs.length = hs.length
theorem gOK_nil {kd : Nat} {hs : List Nat} {k : Nat} : gOK W kd hs [] k := ⟨fun q h => by simp at h, by rw [cn_nil]; simp⟩
theorem gOK_mono {kd : Nat} {hs gs : List Nat} {k k' : Nat} (h : gOK W kd hs gs k) (hk : k' ≤ k) : gOK W kd hs gs k' := ⟨fun q hq => ⟨(h.1 q hq).1, by have := (h.1 q hq).2; omega⟩, h.2⟩
theorem gOK_not {kd : Nat} {hs gs : List Nat} {p : Nat} (h : gOK W kd hs gs (ky W kd hs p + 1)) : p ∉ gs := fun q => by have := (h.1 p q).2; omega
theorem gOK_app {kd : Nat} {hs gs : List Nat} {p : Nat} (h : gOK W kd hs gs (ky W kd hs p + 1)) (hp : p < hs.length) : gOK W kd hs (gs ++ [p]) (ky W kd hs p) := by
  refine ⟨fun q hq => ?_, ?_⟩
  · rw [List.mem_append, List.mem_singleton] at hq
    rcases hq with hq | rfl
    · exact ⟨(h.1 q hq).1, by have := (h.1 q hq).2; omega⟩
    · exact ⟨hp, Nat.le_refl _⟩
  · have := cn_app (gOK_not W h) hs.length hp
    rw [List.length_append, List.length_singleton]
    have := h.2
    omega
theorem gOK_len {kd : Nat} {hs gs : List Nat} {p : Nat} (h : gOK W kd hs gs (ky W kd hs p + 1)) (hp : p < hs.length) : gs.length < hs.length := by
  have a := cn_app (gOK_not W h) hs.length hp
  have b := h.2
  omega
end
def rst (hs gs : List Nat) : Nat → List Nat
  | 0 => []
  | n + 1 => if n ∈ gs then rst hs gs n else rst hs gs n ++ [hs.getD n 0]
theorem rst_len {hs gs : List Nat} : ∀ n, (rst hs gs n).length = cn gs n
  | 0 => rfl
  | n + 1 => by
    show (if n ∈ gs then rst hs gs n else rst hs gs n ++ [hs.getD n 0]).length = cn gs n + (if n ∈ gs then 0 else 1)
    split
    · rw [rst_len n]; rfl
    · rw [List.length_append, rst_len n]; rfl
theorem cn_le {gs : List Nat} : ∀ n, cn gs n ≤ n
  | 0 => Nat.le_refl _
  | n + 1 => by
    have := cn_le (gs := gs) n
    show cn gs n + (if n ∈ gs then 0 else 1) ≤ n + 1
    split <;> omega
theorem rst_ok {hs gs : List Nat} (h : coins hs) : ∀ n, n ≤ hs.length → coins (rst hs gs n)
  | 0, _ => ⟨by simp [rst], by simp [rst]⟩
  | n + 1, hn => by
    have ih := rst_ok (gs := gs) h n (by omega)
    show coins (if n ∈ gs then rst hs gs n else rst hs gs n ++ [hs.getD n 0])
    split
    · exact ih
    · have := rst_len (hs := hs) (gs := gs) n
      have := cn_le (gs := gs) n
      have := h.1
      exact coins_push ih (h.2 n (by omega)) (by omega)
def mks (hs : List Nat) : List Nat → Nat
  | [] => 0
  | p :: gs => hs.getD p 0 % 2 + mks hs gs
theorem mks_app {hs : List Nat} {p : Nat} : ∀ {gs : List Nat}, mks hs (gs ++ [p]) = mks hs gs + hs.getD p 0 % 2
  | [] => by simp [mks]
  | q :: gs => by
    show hs.getD q 0 % 2 + mks hs (gs ++ [p]) = hs.getD q 0 % 2 + mks hs gs + hs.getD p 0 % 2
    rw [mks_app]; omega
theorem tot_le {W : Nat → Nat} {hs : List Nat} (h : ∀ p, p < hs.length → wpl W hs p ≤ 99) : ∀ {gs : List Nat}, (∀ q, q ∈ gs → q < hs.length) → tot W hs gs ≤ 99 * gs.length
  | [], _ => by simp [tot]
  | q :: gs, hq => by
    have a := h q (hq q (by simp))
    have b := tot_le h (gs := gs) (fun x hx => hq x (by simp [hx]))
    show wpl W hs q + tot W hs gs ≤ 99 * (gs.length + 1)
    omega
theorem mks_le {hs : List Nat} : ∀ {gs : List Nat}, mks hs gs ≤ gs.length
  | [] => by simp [mks]
  | q :: gs => by
    have b := mks_le (hs := hs) (gs := gs)
    show hs.getD q 0 % 2 + mks hs gs ≤ gs.length + 1
    omega
def psh24 (hs : List Nat) (x : Nat) : List Nat := if hs.length < 24 then hs ++ [x] else hs
theorem psh24_ok {hs : List Nat} (h : coins hs) {x : Nat} (hx : x < 12) : coins (psh24 hs x) := by
  unfold psh24
  split
  · exact coins_push h hx (by assumption)
  · exact h
