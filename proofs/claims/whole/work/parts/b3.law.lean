def TYP (P : Option Value → Prop) (f : HP → RS) : Prop := ∀ x v y, f x = some (v, y) → P v
def PI (v : Option Value) : Prop := ∃ r : Int32, v = some (.int r)
def PJ (v : Option Value) : Prop := ∃ r : Int64, v = some (.long r)
section
variable {P : Option Value → Prop}
theorem ty_rt {v : Option Value} (h : P v) : TYP P (rt v) := fun x v y e => by cases e; exact h
theorem ty_none : TYP P (fun _ => none) := fun x v y e => by cases e
theorem ty_cG {g : HP → RS} {F : Option Value → HP → RS} (h : ∀ v, TYP P (F v)) : TYP P (cG g F) := by
  intro x v y e
  unfold cG at e
  split at e
  · exact h _ _ _ _ e
  · cases e
theorem ty_toI {F : Int32 → HP → RS} (h : ∀ r, TYP P (F r)) (v : Option Value) : TYP P (toI F v) := by
  unfold toI
  split
  · exact h _
  · exact ty_none
theorem ty_toJ {F : Int64 → HP → RS} (h : ∀ r, TYP P (F r)) (v : Option Value) : TYP P (toJ F v) := by
  unfold toJ
  split
  · exact h _
  · exact ty_none
theorem ty_toR {F : Nat → HP → RS} (h : ∀ r, TYP P (F r)) (v : Option Value) : TYP P (toR F v) := by
  unfold toR
  split
  · exact h _
  · exact ty_none
theorem ty_toQ {F : Option Nat → HP → RS} (h : ∀ r, TYP P (F r)) (v : Option Value) : TYP P (toQ F v) := by
  unfold toQ
  split
  · exact h _
  · exact h _
  · exact ty_none
theorem ty_toV {F : HP → RS} (h : TYP P F) (v : Option Value) : TYP P (toV F v) := by
  unfold toV
  split
  · exact h
  · exact ty_none
theorem ty_iteT {p : Prop} [Decidable p] {A B : HP → RS} (h : TYP P A) (h2 : TYP P B) : TYP P (iteT p A B) := by
  intro x v y e
  unfold iteT at e
  split at e
  · exact h _ _ _ e
  · exact h2 _ _ _ e
theorem ty_oN {q : Option Nat} {A : HP → RS} {B : Nat → HP → RS} (h : TYP P A) (h2 : ∀ c, TYP P (B c)) : TYP P (oN q A B) := by
  cases q
  · exact h
  · exact h2 _
theorem ty_rF {c ci k : Nat} {F : Value → HP → RS} (h : ∀ v, TYP P (F v)) : TYP P (rF c ci k F) := by
  intro x v y e
  unfold rF at e
  split at e
  · split at e
    · exact h _ _ _ _ e
    · cases e
  · cases e
theorem ty_rI {c ci k : Nat} {F : Int32 → HP → RS} (h : ∀ v, TYP P (F v)) : TYP P (rI c ci k F) := ty_rF (fun v => by
  split
  · exact h _
  · exact ty_none)
theorem ty_rJ {c ci k : Nat} {F : Int64 → HP → RS} (h : ∀ v, TYP P (F v)) : TYP P (rJ c ci k F) := ty_rF (fun v => by
  split
  · exact h _
  · exact ty_none)
theorem ty_rR {c ci k : Nat} {F : Nat → HP → RS} (h : ∀ v, TYP P (F v)) : TYP P (rR c ci k F) := ty_rF (fun v => by
  split
  · exact h _
  · exact ty_none)
theorem ty_wF {c ci k : Nat} {w : Value} {F : HP → RS} (h : TYP P F) : TYP P (wF c ci k w F) := by
  intro x v y e
  unfold wF at e
  split at e
  · split at e
    · exact h _ _ _ e
    · cases e
  · cases e
theorem ty_bitT {w : Int32} {F : HP → RS} (h : TYP P F) : TYP P (bitT w F) := by
  intro x v y e
  unfold bitT at e
  split at e
  · exact h _ _ _ e
  · cases e
theorem ty_obT {c ci : Nat} {F : HP → RS} (h : TYP P F) : TYP P (obT c ci F) := by
  intro x v y e
  unfold obT at e
  split at e
  · exact h _ _ _ e
  · cases e
theorem ty_exT {c : Nat} {F : HP → RS} (h : TYP P F) : TYP P (exT c F) := by
  intro x v y e
  unfold exT at e
  split at e
  · exact h _ _ _ e
  · cases e
theorem ty_aI {c t : Nat} {i : Int32} {F : Int32 → HP → RS} (h : ∀ v, TYP P (F v)) : TYP P (aI c t i F) := by
  intro x v y e
  unfold aI at e
  split at e
  · split at e
    · cases e
    · exact h _ _ _ _ e
  · cases e
theorem ty_sI {c t : Nat} {i w : Int32} {F : HP → RS} (h : TYP P F) : TYP P (sI c t i w F) := by
  intro x v y e
  unfold sI at e
  split at e
  · split at e
    · cases e
    · exact h _ _ _ e
  · cases e
theorem ty_aR {c t : Nat} {i : Int32} {F : Nat → HP → RS} (h : ∀ v, TYP P (F v)) : TYP P (aR c t i F) := by
  intro x v y e
  unfold aR at e
  split at e
  · split at e
    · cases e
    · split at e
      · exact h _ _ _ _ e
      · cases e
  · cases e
theorem ty_aLI {c t : Nat} {F : Int32 → HP → RS} (h : ∀ v, TYP P (F v)) : TYP P (aLI c t F) := by
  intro x v y e
  unfold aLI at e
  split at e
  · exact h _ _ _ _ e
  · cases e
theorem ty_aLQ {c t : Nat} {F : Int32 → HP → RS} (h : ∀ v, TYP P (F v)) : TYP P (aLQ c t F) := by
  intro x v y e
  unfold aLQ at e
  split at e
  · exact h _ _ _ _ e
  · cases e
theorem ty_tbT {n : Nat} {f : Nat → Int32} {i : Int32} {F : Int32 → HP → RS} (h : ∀ v, TYP P (F v)) : TYP P (tbT n f i F) := by
  intro x v y e
  unfold tbT at e
  split at e
  · cases e
  · exact h _ _ _ _ e
theorem ty_cpI {c0 c1 : Nat} {sp dp n : Int32} {F : HP → RS} (h : TYP P F) : TYP P (cpI c0 sp c1 dp n F) := by
  intro x v y e
  unfold cpI at e
  split at e
  · split at e
    · cases e
    · exact h _ _ _ e
  · cases e
theorem ty_dvT {w : Int32} {F : HP → RS} (h : TYP P F) : TYP P (dvT w F) := by
  intro x v y e
  unfold dvT at e
  split at e
  · cases e
  · exact h _ _ _ e
theorem ty_dvTl {w : Int64} {F : HP → RS} (h : TYP P F) : TYP P (dvTl w F) := by
  intro x v y e
  unfold dvTl at e
  split at e
  · cases e
  · exact h _ _ _ e
theorem ty_ltI {w : Int32} {F : Int32 → HP → RS} (h : ∀ r, TYP P (F r)) : TYP P (ltI w F) := h w
theorem ty_ltJ {w : Int64} {F : Int64 → HP → RS} (h : ∀ r, TYP P (F r)) : TYP P (ltJ w F) := h w
theorem ty_sw {v : Int32} {l : List (Int32 × (HP → RS))} {d : HP → RS} (h : ∀ a ∈ l, TYP P a.2) (h2 : TYP P d) : TYP P (swT v l d) := by
  induction l with
  | nil => exact h2
  | cons a l ih => exact ty_iteT (h a List.mem_cons_self) (ih (fun b hb => h b (List.mem_cons_of_mem _ hb)))
theorem ty_loop {T : Type} {b : (T → HP → RS) → T → HP → RS} (h : ∀ K, (∀ q, TYP P (K q)) → ∀ q, TYP P (b K q)) (q : T) : TYP P (loopT b q) := by
  have key : ∀ n q, TYP P (loopN b n q) := by
    intro n
    induction n with
    | zero => exact fun q => ty_none
    | succ n ih => exact fun q => h _ ih q
  exact key _ q
theorem ty_sc {v k : Int32} {A : HP → RS} {l : List (Int32 × (HP → RS))} {d : HP → RS} (h : TYP P A) (h2 : TYP P (swT v l d)) : TYP P (swT v ((k, A) :: l) d) := ty_iteT h h2
theorem ty_sn {v : Int32} {d : HP → RS} (h2 : TYP P d) : TYP P (swT v [] d) := h2
end
theorem ty_rtI {r : Int32} : TYP PI (rt (some (.int r))) := ty_rt ⟨_, rfl⟩
theorem ty_rtJ {r : Int64} : TYP PJ (rt (some (.long r))) := ty_rt ⟨_, rfl⟩
theorem ty_told {x : Int32} : TYP PI (f_Bx_told 0 x) := by
  unfold f_Bx_told
  repeat' first | with_reducible (first | exact ty_rtI | exact ty_rtJ | refine ty_sc ?_ ?_ | refine ty_sn ?_ | assumption | exact hK _ | refine ty_cG (fun _ => ?_) | refine ty_toI (fun _ => ?_) _ | refine ty_toJ (fun _ => ?_) _ | refine ty_toR (fun _ => ?_) _ | refine ty_toQ (fun _ => ?_) _ | refine ty_toV ?_ _ | refine ty_iteT ?_ ?_ | refine ty_oN ?_ (fun _ => ?_) | refine ty_rI (fun _ => ?_) | refine ty_rJ (fun _ => ?_) | refine ty_rR (fun _ => ?_) | refine ty_wF ?_ | refine ty_bitT ?_ | refine ty_obT ?_ | refine ty_exT ?_ | refine ty_aI (fun _ => ?_) | refine ty_sI ?_ | refine ty_aR (fun _ => ?_) | refine ty_aLI (fun _ => ?_) | refine ty_aLQ (fun _ => ?_) | refine ty_tbT (fun _ => ?_) | refine ty_cpI ?_ | refine ty_dvT ?_ | refine ty_dvTl ?_ | refine ty_ltI (fun _ => ?_) | refine ty_ltJ (fun _ => ?_) | refine ty_loop (fun K hK q => ?_) _) | (first | unfold b_Bx_told_11)
theorem ty_count {x : Int32} : TYP PI (f_Bx_count 0 x) := by
  unfold f_Bx_count
  repeat' first | with_reducible (first | exact ty_rtI | exact ty_rtJ | refine ty_sc ?_ ?_ | refine ty_sn ?_ | assumption | exact hK _ | refine ty_cG (fun _ => ?_) | refine ty_toI (fun _ => ?_) _ | refine ty_toJ (fun _ => ?_) _ | refine ty_toR (fun _ => ?_) _ | refine ty_toQ (fun _ => ?_) _ | refine ty_toV ?_ _ | refine ty_iteT ?_ ?_ | refine ty_oN ?_ (fun _ => ?_) | refine ty_rI (fun _ => ?_) | refine ty_rJ (fun _ => ?_) | refine ty_rR (fun _ => ?_) | refine ty_wF ?_ | refine ty_bitT ?_ | refine ty_obT ?_ | refine ty_exT ?_ | refine ty_aI (fun _ => ?_) | refine ty_sI ?_ | refine ty_aR (fun _ => ?_) | refine ty_aLI (fun _ => ?_) | refine ty_aLQ (fun _ => ?_) | refine ty_tbT (fun _ => ?_) | refine ty_cpI ?_ | refine ty_dvT ?_ | refine ty_dvTl ?_ | refine ty_ltI (fun _ => ?_) | refine ty_ltJ (fun _ => ?_) | refine ty_loop (fun K hK q => ?_) _) | (first | unfold b_Bx_count_175 | unfold b_Bx_count_204 | unfold b_Bx_count_167 | unfold b_Bx_count_159 | unfold b_Bx_count_151 | unfold b_Bx_count_143 | unfold b_Bx_count_135 | unfold b_Bx_count_127 | unfold b_Bx_count_119 | unfold b_Bx_count_111 | unfold b_Bx_count_103 | unfold b_Bx_count_95 | unfold b_Bx_count_84)
theorem ty_check : TYP PI (f_Bx_check 0) := by
  unfold f_Bx_check
  repeat' first | with_reducible (first | exact ty_rtI | exact ty_rtJ | refine ty_sc ?_ ?_ | refine ty_sn ?_ | assumption | exact hK _ | refine ty_cG (fun _ => ?_) | refine ty_toI (fun _ => ?_) _ | refine ty_toJ (fun _ => ?_) _ | refine ty_toR (fun _ => ?_) _ | refine ty_toQ (fun _ => ?_) _ | refine ty_toV ?_ _ | refine ty_iteT ?_ ?_ | refine ty_oN ?_ (fun _ => ?_) | refine ty_rI (fun _ => ?_) | refine ty_rJ (fun _ => ?_) | refine ty_rR (fun _ => ?_) | refine ty_wF ?_ | refine ty_bitT ?_ | refine ty_obT ?_ | refine ty_exT ?_ | refine ty_aI (fun _ => ?_) | refine ty_sI ?_ | refine ty_aR (fun _ => ?_) | refine ty_aLI (fun _ => ?_) | refine ty_aLQ (fun _ => ?_) | refine ty_tbT (fun _ => ?_) | refine ty_cpI ?_ | refine ty_dvT ?_ | refine ty_dvTl ?_ | refine ty_ltI (fun _ => ?_) | refine ty_ltJ (fun _ => ?_) | refine ty_loop (fun K hK q => ?_) _) | (first | unfold b_Bx_check_27)
theorem ty_tell {x : Int32} : TYP PI (f_Bx_tell 0 x) := by
  unfold f_Bx_tell
  repeat' first | with_reducible (first | exact ty_rtI | exact ty_rtJ | refine ty_sc ?_ ?_ | refine ty_sn ?_ | assumption | exact hK _ | refine ty_cG (fun _ => ?_) | refine ty_toI (fun _ => ?_) _ | refine ty_toJ (fun _ => ?_) _ | refine ty_toR (fun _ => ?_) _ | refine ty_toQ (fun _ => ?_) _ | refine ty_toV ?_ _ | refine ty_iteT ?_ ?_ | refine ty_oN ?_ (fun _ => ?_) | refine ty_rI (fun _ => ?_) | refine ty_rJ (fun _ => ?_) | refine ty_rR (fun _ => ?_) | refine ty_wF ?_ | refine ty_bitT ?_ | refine ty_obT ?_ | refine ty_exT ?_ | refine ty_aI (fun _ => ?_) | refine ty_sI ?_ | refine ty_aR (fun _ => ?_) | refine ty_aLI (fun _ => ?_) | refine ty_aLQ (fun _ => ?_) | refine ty_tbT (fun _ => ?_) | refine ty_cpI ?_ | refine ty_dvT ?_ | refine ty_dvTl ?_ | refine ty_ltI (fun _ => ?_) | refine ty_ltJ (fun _ => ?_) | refine ty_loop (fun K hK q => ?_) _) | (first | unfold b_Bx_tell_26)
theorem ty_restore : TYP PI (f_Bx_restore 0) := by
  unfold f_Bx_restore
  repeat' first | with_reducible (first | exact ty_rtI | exact ty_rtJ | refine ty_sc ?_ ?_ | refine ty_sn ?_ | assumption | exact hK _ | refine ty_cG (fun _ => ?_) | refine ty_toI (fun _ => ?_) _ | refine ty_toJ (fun _ => ?_) _ | refine ty_toR (fun _ => ?_) _ | refine ty_toQ (fun _ => ?_) _ | refine ty_toV ?_ _ | refine ty_iteT ?_ ?_ | refine ty_oN ?_ (fun _ => ?_) | refine ty_rI (fun _ => ?_) | refine ty_rJ (fun _ => ?_) | refine ty_rR (fun _ => ?_) | refine ty_wF ?_ | refine ty_bitT ?_ | refine ty_obT ?_ | refine ty_exT ?_ | refine ty_aI (fun _ => ?_) | refine ty_sI ?_ | refine ty_aR (fun _ => ?_) | refine ty_aLI (fun _ => ?_) | refine ty_aLQ (fun _ => ?_) | refine ty_tbT (fun _ => ?_) | refine ty_cpI ?_ | refine ty_dvT ?_ | refine ty_dvTl ?_ | refine ty_ltI (fun _ => ?_) | refine ty_ltJ (fun _ => ?_) | refine ty_loop (fun K hK q => ?_) _) | (first | fail)
theorem ty_image : TYP PI (f_Bx_image 0) := by
  unfold f_Bx_image
  repeat' first | with_reducible (first | exact ty_rtI | exact ty_rtJ | refine ty_sc ?_ ?_ | refine ty_sn ?_ | assumption | exact hK _ | refine ty_cG (fun _ => ?_) | refine ty_toI (fun _ => ?_) _ | refine ty_toJ (fun _ => ?_) _ | refine ty_toR (fun _ => ?_) _ | refine ty_toQ (fun _ => ?_) _ | refine ty_toV ?_ _ | refine ty_iteT ?_ ?_ | refine ty_oN ?_ (fun _ => ?_) | refine ty_rI (fun _ => ?_) | refine ty_rJ (fun _ => ?_) | refine ty_rR (fun _ => ?_) | refine ty_wF ?_ | refine ty_bitT ?_ | refine ty_obT ?_ | refine ty_exT ?_ | refine ty_aI (fun _ => ?_) | refine ty_sI ?_ | refine ty_aR (fun _ => ?_) | refine ty_aLI (fun _ => ?_) | refine ty_aLQ (fun _ => ?_) | refine ty_tbT (fun _ => ?_) | refine ty_cpI ?_ | refine ty_dvT ?_ | refine ty_dvTl ?_ | refine ty_ltI (fun _ => ?_) | refine ty_ltJ (fun _ => ?_) | refine ty_loop (fun K hK q => ?_) _) | (first | fail)
theorem ty_lays {x : Int32} : TYP PI (f_Bx_lays 0 x) := by
  unfold f_Bx_lays
  repeat' first | with_reducible (first | exact ty_rtI | exact ty_rtJ | refine ty_sc ?_ ?_ | refine ty_sn ?_ | assumption | exact hK _ | refine ty_cG (fun _ => ?_) | refine ty_toI (fun _ => ?_) _ | refine ty_toJ (fun _ => ?_) _ | refine ty_toR (fun _ => ?_) _ | refine ty_toQ (fun _ => ?_) _ | refine ty_toV ?_ _ | refine ty_iteT ?_ ?_ | refine ty_oN ?_ (fun _ => ?_) | refine ty_rI (fun _ => ?_) | refine ty_rJ (fun _ => ?_) | refine ty_rR (fun _ => ?_) | refine ty_wF ?_ | refine ty_bitT ?_ | refine ty_obT ?_ | refine ty_exT ?_ | refine ty_aI (fun _ => ?_) | refine ty_sI ?_ | refine ty_aR (fun _ => ?_) | refine ty_aLI (fun _ => ?_) | refine ty_aLQ (fun _ => ?_) | refine ty_tbT (fun _ => ?_) | refine ty_cpI ?_ | refine ty_dvT ?_ | refine ty_dvTl ?_ | refine ty_ltI (fun _ => ?_) | refine ty_ltJ (fun _ => ?_) | refine ty_loop (fun K hK q => ?_) _) | (first | unfold b_Bx_lays_31 | unfold b_Bx_lays_77)
theorem ty_move {x1 : Int32} {x2 : Int32} {x3 : Int32} {x4 : Int32} {x5 : Int32} : TYP PI (f_Bx_move 0 x1 x2 x3 x4 x5) := by
  unfold f_Bx_move
  repeat' first | with_reducible (first | exact ty_rtI | exact ty_rtJ | refine ty_sc ?_ ?_ | refine ty_sn ?_ | assumption | exact hK _ | refine ty_cG (fun _ => ?_) | refine ty_toI (fun _ => ?_) _ | refine ty_toJ (fun _ => ?_) _ | refine ty_toR (fun _ => ?_) _ | refine ty_toQ (fun _ => ?_) _ | refine ty_toV ?_ _ | refine ty_iteT ?_ ?_ | refine ty_oN ?_ (fun _ => ?_) | refine ty_rI (fun _ => ?_) | refine ty_rJ (fun _ => ?_) | refine ty_rR (fun _ => ?_) | refine ty_wF ?_ | refine ty_bitT ?_ | refine ty_obT ?_ | refine ty_exT ?_ | refine ty_aI (fun _ => ?_) | refine ty_sI ?_ | refine ty_aR (fun _ => ?_) | refine ty_aLI (fun _ => ?_) | refine ty_aLQ (fun _ => ?_) | refine ty_tbT (fun _ => ?_) | refine ty_cpI ?_ | refine ty_dvT ?_ | refine ty_dvTl ?_ | refine ty_ltI (fun _ => ?_) | refine ty_ltJ (fun _ => ?_) | refine ty_loop (fun K hK q => ?_) _) | (first | unfold b_Bx_move_46 | unfold b_Bx_move_91 | unfold b_Bx_move_24)
theorem ty_put {x : Int32} {y : Int32} {v : Int32} : TYP PI (f_Bx_put 0 x y v) := by
  unfold f_Bx_put
  repeat' first | with_reducible (first | exact ty_rtI | exact ty_rtJ | refine ty_sc ?_ ?_ | refine ty_sn ?_ | assumption | exact hK _ | refine ty_cG (fun _ => ?_) | refine ty_toI (fun _ => ?_) _ | refine ty_toJ (fun _ => ?_) _ | refine ty_toR (fun _ => ?_) _ | refine ty_toQ (fun _ => ?_) _ | refine ty_toV ?_ _ | refine ty_iteT ?_ ?_ | refine ty_oN ?_ (fun _ => ?_) | refine ty_rI (fun _ => ?_) | refine ty_rJ (fun _ => ?_) | refine ty_rR (fun _ => ?_) | refine ty_wF ?_ | refine ty_bitT ?_ | refine ty_obT ?_ | refine ty_exT ?_ | refine ty_aI (fun _ => ?_) | refine ty_sI ?_ | refine ty_aR (fun _ => ?_) | refine ty_aLI (fun _ => ?_) | refine ty_aLQ (fun _ => ?_) | refine ty_tbT (fun _ => ?_) | refine ty_cpI ?_ | refine ty_dvT ?_ | refine ty_dvTl ?_ | refine ty_ltI (fun _ => ?_) | refine ty_ltJ (fun _ => ?_) | refine ty_loop (fun K hK q => ?_) _) | (first | unfold b_Bx_put_45)
theorem ty_sheet {x : Int32} {y : Int32} {z : Int32} : TYP PI (f_Bx_sheet 0 x y z) := by
  unfold f_Bx_sheet
  repeat' first | with_reducible (first | exact ty_rtI | exact ty_rtJ | refine ty_sc ?_ ?_ | refine ty_sn ?_ | assumption | exact hK _ | refine ty_cG (fun _ => ?_) | refine ty_toI (fun _ => ?_) _ | refine ty_toJ (fun _ => ?_) _ | refine ty_toR (fun _ => ?_) _ | refine ty_toQ (fun _ => ?_) _ | refine ty_toV ?_ _ | refine ty_iteT ?_ ?_ | refine ty_oN ?_ (fun _ => ?_) | refine ty_rI (fun _ => ?_) | refine ty_rJ (fun _ => ?_) | refine ty_rR (fun _ => ?_) | refine ty_wF ?_ | refine ty_bitT ?_ | refine ty_obT ?_ | refine ty_exT ?_ | refine ty_aI (fun _ => ?_) | refine ty_sI ?_ | refine ty_aR (fun _ => ?_) | refine ty_aLI (fun _ => ?_) | refine ty_aLQ (fun _ => ?_) | refine ty_tbT (fun _ => ?_) | refine ty_cpI ?_ | refine ty_dvT ?_ | refine ty_dvTl ?_ | refine ty_ltI (fun _ => ?_) | refine ty_ltJ (fun _ => ?_) | refine ty_loop (fun K hK q => ?_) _) | (first | unfold b_Bx_sheet_34 | unfold b_Bx_sheet_40)
theorem ty_body {x : Int32} : TYP PI (f_Bx_body 0 x) := by
  unfold f_Bx_body
  repeat' first | with_reducible (first | exact ty_rtI | exact ty_rtJ | refine ty_sc ?_ ?_ | refine ty_sn ?_ | assumption | exact hK _ | refine ty_cG (fun _ => ?_) | refine ty_toI (fun _ => ?_) _ | refine ty_toJ (fun _ => ?_) _ | refine ty_toR (fun _ => ?_) _ | refine ty_toQ (fun _ => ?_) _ | refine ty_toV ?_ _ | refine ty_iteT ?_ ?_ | refine ty_oN ?_ (fun _ => ?_) | refine ty_rI (fun _ => ?_) | refine ty_rJ (fun _ => ?_) | refine ty_rR (fun _ => ?_) | refine ty_wF ?_ | refine ty_bitT ?_ | refine ty_obT ?_ | refine ty_exT ?_ | refine ty_aI (fun _ => ?_) | refine ty_sI ?_ | refine ty_aR (fun _ => ?_) | refine ty_aLI (fun _ => ?_) | refine ty_aLQ (fun _ => ?_) | refine ty_tbT (fun _ => ?_) | refine ty_cpI ?_ | refine ty_dvT ?_ | refine ty_dvTl ?_ | refine ty_ltI (fun _ => ?_) | refine ty_ltJ (fun _ => ?_) | refine ty_loop (fun K hK q => ?_) _) | (first | unfold b_Bx_body_15)
theorem ty_voice {x : Int32} {y : Int32} : TYP PI (f_Bx_voice 0 x y) := by
  unfold f_Bx_voice
  repeat' first | with_reducible (first | exact ty_rtI | exact ty_rtJ | refine ty_sc ?_ ?_ | refine ty_sn ?_ | assumption | exact hK _ | refine ty_cG (fun _ => ?_) | refine ty_toI (fun _ => ?_) _ | refine ty_toJ (fun _ => ?_) _ | refine ty_toR (fun _ => ?_) _ | refine ty_toQ (fun _ => ?_) _ | refine ty_toV ?_ _ | refine ty_iteT ?_ ?_ | refine ty_oN ?_ (fun _ => ?_) | refine ty_rI (fun _ => ?_) | refine ty_rJ (fun _ => ?_) | refine ty_rR (fun _ => ?_) | refine ty_wF ?_ | refine ty_bitT ?_ | refine ty_obT ?_ | refine ty_exT ?_ | refine ty_aI (fun _ => ?_) | refine ty_sI ?_ | refine ty_aR (fun _ => ?_) | refine ty_aLI (fun _ => ?_) | refine ty_aLQ (fun _ => ?_) | refine ty_tbT (fun _ => ?_) | refine ty_cpI ?_ | refine ty_dvT ?_ | refine ty_dvTl ?_ | refine ty_ltI (fun _ => ?_) | refine ty_ltJ (fun _ => ?_) | refine ty_loop (fun K hK q => ?_) _) | (first | unfold b_Bx_voice_9 | unfold b_Bx_voice_49)
theorem ty_tally {x : Int32} {y : Int32} : TYP PI (f_Bx_tally 0 x y) := by
  unfold f_Bx_tally
  repeat' first | with_reducible (first | exact ty_rtI | exact ty_rtJ | refine ty_sc ?_ ?_ | refine ty_sn ?_ | assumption | exact hK _ | refine ty_cG (fun _ => ?_) | refine ty_toI (fun _ => ?_) _ | refine ty_toJ (fun _ => ?_) _ | refine ty_toR (fun _ => ?_) _ | refine ty_toQ (fun _ => ?_) _ | refine ty_toV ?_ _ | refine ty_iteT ?_ ?_ | refine ty_oN ?_ (fun _ => ?_) | refine ty_rI (fun _ => ?_) | refine ty_rJ (fun _ => ?_) | refine ty_rR (fun _ => ?_) | refine ty_wF ?_ | refine ty_bitT ?_ | refine ty_obT ?_ | refine ty_exT ?_ | refine ty_aI (fun _ => ?_) | refine ty_sI ?_ | refine ty_aR (fun _ => ?_) | refine ty_aLI (fun _ => ?_) | refine ty_aLQ (fun _ => ?_) | refine ty_tbT (fun _ => ?_) | refine ty_cpI ?_ | refine ty_dvT ?_ | refine ty_dvTl ?_ | refine ty_ltI (fun _ => ?_) | refine ty_ltJ (fun _ => ?_) | refine ty_loop (fun K hK q => ?_) _) | (first | unfold b_Bx_tally_19 | unfold b_Bx_tally_40 | unfold b_Bx_tally_83)
theorem ty_must {x : Int32} {y : Int32} : TYP PI (f_Bx_must 0 x y) := by
  unfold f_Bx_must
  repeat' first | with_reducible (first | exact ty_rtI | exact ty_rtJ | refine ty_sc ?_ ?_ | refine ty_sn ?_ | assumption | exact hK _ | refine ty_cG (fun _ => ?_) | refine ty_toI (fun _ => ?_) _ | refine ty_toJ (fun _ => ?_) _ | refine ty_toR (fun _ => ?_) _ | refine ty_toQ (fun _ => ?_) _ | refine ty_toV ?_ _ | refine ty_iteT ?_ ?_ | refine ty_oN ?_ (fun _ => ?_) | refine ty_rI (fun _ => ?_) | refine ty_rJ (fun _ => ?_) | refine ty_rR (fun _ => ?_) | refine ty_wF ?_ | refine ty_bitT ?_ | refine ty_obT ?_ | refine ty_exT ?_ | refine ty_aI (fun _ => ?_) | refine ty_sI ?_ | refine ty_aR (fun _ => ?_) | refine ty_aLI (fun _ => ?_) | refine ty_aLQ (fun _ => ?_) | refine ty_tbT (fun _ => ?_) | refine ty_cpI ?_ | refine ty_dvT ?_ | refine ty_dvTl ?_ | refine ty_ltI (fun _ => ?_) | refine ty_ltJ (fun _ => ?_) | refine ty_loop (fun K hK q => ?_) _) | (first | unfold b_Bx_must_64 | unfold b_Bx_must_17)
theorem ty_again {x : Int32} : TYP PI (f_Bx_again 0 x) := by
  unfold f_Bx_again
  repeat' first | with_reducible (first | exact ty_rtI | exact ty_rtJ | refine ty_sc ?_ ?_ | refine ty_sn ?_ | assumption | exact hK _ | refine ty_cG (fun _ => ?_) | refine ty_toI (fun _ => ?_) _ | refine ty_toJ (fun _ => ?_) _ | refine ty_toR (fun _ => ?_) _ | refine ty_toQ (fun _ => ?_) _ | refine ty_toV ?_ _ | refine ty_iteT ?_ ?_ | refine ty_oN ?_ (fun _ => ?_) | refine ty_rI (fun _ => ?_) | refine ty_rJ (fun _ => ?_) | refine ty_rR (fun _ => ?_) | refine ty_wF ?_ | refine ty_bitT ?_ | refine ty_obT ?_ | refine ty_exT ?_ | refine ty_aI (fun _ => ?_) | refine ty_sI ?_ | refine ty_aR (fun _ => ?_) | refine ty_aLI (fun _ => ?_) | refine ty_aLQ (fun _ => ?_) | refine ty_tbT (fun _ => ?_) | refine ty_cpI ?_ | refine ty_dvT ?_ | refine ty_dvTl ?_ | refine ty_ltI (fun _ => ?_) | refine ty_ltJ (fun _ => ?_) | refine ty_loop (fun K hK q => ?_) _) | (first | unfold b_Bx_again_52)
theorem ty_wrong {x : Int32} {y : Int32} : TYP PJ (f_Bx_wrong 0 x y) := by
  unfold f_Bx_wrong
  repeat' first | with_reducible (first | exact ty_rtI | exact ty_rtJ | refine ty_sc ?_ ?_ | refine ty_sn ?_ | assumption | exact hK _ | refine ty_cG (fun _ => ?_) | refine ty_toI (fun _ => ?_) _ | refine ty_toJ (fun _ => ?_) _ | refine ty_toR (fun _ => ?_) _ | refine ty_toQ (fun _ => ?_) _ | refine ty_toV ?_ _ | refine ty_iteT ?_ ?_ | refine ty_oN ?_ (fun _ => ?_) | refine ty_rI (fun _ => ?_) | refine ty_rJ (fun _ => ?_) | refine ty_rR (fun _ => ?_) | refine ty_wF ?_ | refine ty_bitT ?_ | refine ty_obT ?_ | refine ty_exT ?_ | refine ty_aI (fun _ => ?_) | refine ty_sI ?_ | refine ty_aR (fun _ => ?_) | refine ty_aLI (fun _ => ?_) | refine ty_aLQ (fun _ => ?_) | refine ty_tbT (fun _ => ?_) | refine ty_cpI ?_ | refine ty_dvT ?_ | refine ty_dvTl ?_ | refine ty_ltI (fun _ => ?_) | refine ty_ltJ (fun _ => ?_) | refine ty_loop (fun K hK q => ?_) _) | (first | unfold b_Bx_wrong_19 | unfold b_Bx_wrong_74 | unfold b_Bx_wrong_93)
theorem ty_dawn {x : Int32} {y : Int32} : TYP PI (f_Bx_dawn 0 x y) := by
  unfold f_Bx_dawn
  repeat' first | with_reducible (first | exact ty_rtI | exact ty_rtJ | refine ty_sc ?_ ?_ | refine ty_sn ?_ | assumption | exact hK _ | refine ty_cG (fun _ => ?_) | refine ty_toI (fun _ => ?_) _ | refine ty_toJ (fun _ => ?_) _ | refine ty_toR (fun _ => ?_) _ | refine ty_toQ (fun _ => ?_) _ | refine ty_toV ?_ _ | refine ty_iteT ?_ ?_ | refine ty_oN ?_ (fun _ => ?_) | refine ty_rI (fun _ => ?_) | refine ty_rJ (fun _ => ?_) | refine ty_rR (fun _ => ?_) | refine ty_wF ?_ | refine ty_bitT ?_ | refine ty_obT ?_ | refine ty_exT ?_ | refine ty_aI (fun _ => ?_) | refine ty_sI ?_ | refine ty_aR (fun _ => ?_) | refine ty_aLI (fun _ => ?_) | refine ty_aLQ (fun _ => ?_) | refine ty_tbT (fun _ => ?_) | refine ty_cpI ?_ | refine ty_dvT ?_ | refine ty_dvTl ?_ | refine ty_ltI (fun _ => ?_) | refine ty_ltJ (fun _ => ?_) | refine ty_loop (fun K hK q => ?_) _) | (first | unfold b_Bx_dawn_69 | unfold b_Bx_dawn_17)
theorem ty_order {x : Int32} {y : Int32} : TYP PI (f_Bx_order 0 x y) := by
  unfold f_Bx_order
  repeat' first | with_reducible (first | exact ty_rtI | exact ty_rtJ | refine ty_sc ?_ ?_ | refine ty_sn ?_ | assumption | exact hK _ | refine ty_cG (fun _ => ?_) | refine ty_toI (fun _ => ?_) _ | refine ty_toJ (fun _ => ?_) _ | refine ty_toR (fun _ => ?_) _ | refine ty_toQ (fun _ => ?_) _ | refine ty_toV ?_ _ | refine ty_iteT ?_ ?_ | refine ty_oN ?_ (fun _ => ?_) | refine ty_rI (fun _ => ?_) | refine ty_rJ (fun _ => ?_) | refine ty_rR (fun _ => ?_) | refine ty_wF ?_ | refine ty_bitT ?_ | refine ty_obT ?_ | refine ty_exT ?_ | refine ty_aI (fun _ => ?_) | refine ty_sI ?_ | refine ty_aR (fun _ => ?_) | refine ty_aLI (fun _ => ?_) | refine ty_aLQ (fun _ => ?_) | refine ty_tbT (fun _ => ?_) | refine ty_cpI ?_ | refine ty_dvT ?_ | refine ty_dvTl ?_ | refine ty_ltI (fun _ => ?_) | refine ty_ltJ (fun _ => ?_) | refine ty_loop (fun K hK q => ?_) _) | (first | unfold b_Bx_order_15 | unfold b_Bx_order_88)
theorem ty_get {x : Int32} {y : Int32} {z : Int32} : TYP PI (f_Bx_get 0 x y z) := by
  unfold f_Bx_get
  repeat' first | with_reducible (first | exact ty_rtI | exact ty_rtJ | refine ty_sc ?_ ?_ | refine ty_sn ?_ | assumption | exact hK _ | refine ty_cG (fun _ => ?_) | refine ty_toI (fun _ => ?_) _ | refine ty_toJ (fun _ => ?_) _ | refine ty_toR (fun _ => ?_) _ | refine ty_toQ (fun _ => ?_) _ | refine ty_toV ?_ _ | refine ty_iteT ?_ ?_ | refine ty_oN ?_ (fun _ => ?_) | refine ty_rI (fun _ => ?_) | refine ty_rJ (fun _ => ?_) | refine ty_rR (fun _ => ?_) | refine ty_wF ?_ | refine ty_bitT ?_ | refine ty_obT ?_ | refine ty_exT ?_ | refine ty_aI (fun _ => ?_) | refine ty_sI ?_ | refine ty_aR (fun _ => ?_) | refine ty_aLI (fun _ => ?_) | refine ty_aLQ (fun _ => ?_) | refine ty_tbT (fun _ => ?_) | refine ty_cpI ?_ | refine ty_dvT ?_ | refine ty_dvTl ?_ | refine ty_ltI (fun _ => ?_) | refine ty_ltJ (fun _ => ?_) | refine ty_loop (fun K hK q => ?_) _) | (first | unfold b_Bx_get_27 | unfold b_Bx_get_60)
theorem ty_dear {x : Int32} : TYP PI (f_Bx_dear 0 x) := by
  unfold f_Bx_dear
  repeat' first | with_reducible (first | exact ty_rtI | exact ty_rtJ | refine ty_sc ?_ ?_ | refine ty_sn ?_ | assumption | exact hK _ | refine ty_cG (fun _ => ?_) | refine ty_toI (fun _ => ?_) _ | refine ty_toJ (fun _ => ?_) _ | refine ty_toR (fun _ => ?_) _ | refine ty_toQ (fun _ => ?_) _ | refine ty_toV ?_ _ | refine ty_iteT ?_ ?_ | refine ty_oN ?_ (fun _ => ?_) | refine ty_rI (fun _ => ?_) | refine ty_rJ (fun _ => ?_) | refine ty_rR (fun _ => ?_) | refine ty_wF ?_ | refine ty_bitT ?_ | refine ty_obT ?_ | refine ty_exT ?_ | refine ty_aI (fun _ => ?_) | refine ty_sI ?_ | refine ty_aR (fun _ => ?_) | refine ty_aLI (fun _ => ?_) | refine ty_aLQ (fun _ => ?_) | refine ty_tbT (fun _ => ?_) | refine ty_cpI ?_ | refine ty_dvT ?_ | refine ty_dvTl ?_ | refine ty_ltI (fun _ => ?_) | refine ty_ltJ (fun _ => ?_) | refine ty_loop (fun K hK q => ?_) _) | (first | unfold b_Bx_dear_39)
theorem ty_change {x : Int32} {y : Int32} : TYP PI (f_Bx_change 0 x y) := by
  unfold f_Bx_change
  repeat' first | with_reducible (first | exact ty_rtI | exact ty_rtJ | refine ty_sc ?_ ?_ | refine ty_sn ?_ | assumption | exact hK _ | refine ty_cG (fun _ => ?_) | refine ty_toI (fun _ => ?_) _ | refine ty_toJ (fun _ => ?_) _ | refine ty_toR (fun _ => ?_) _ | refine ty_toQ (fun _ => ?_) _ | refine ty_toV ?_ _ | refine ty_iteT ?_ ?_ | refine ty_oN ?_ (fun _ => ?_) | refine ty_rI (fun _ => ?_) | refine ty_rJ (fun _ => ?_) | refine ty_rR (fun _ => ?_) | refine ty_wF ?_ | refine ty_bitT ?_ | refine ty_obT ?_ | refine ty_exT ?_ | refine ty_aI (fun _ => ?_) | refine ty_sI ?_ | refine ty_aR (fun _ => ?_) | refine ty_aLI (fun _ => ?_) | refine ty_aLQ (fun _ => ?_) | refine ty_tbT (fun _ => ?_) | refine ty_cpI ?_ | refine ty_dvT ?_ | refine ty_dvTl ?_ | refine ty_ltI (fun _ => ?_) | refine ty_ltJ (fun _ => ?_) | refine ty_loop (fun K hK q => ?_) _) | (first | unfold b_Bx_change_11 | unfold b_Bx_change_120 | unfold b_Bx_change_154 | unfold b_Bx_change_112 | unfold b_Bx_change_96 | unfold b_Bx_change_111 | unfold b_Bx_change_88 | unfold b_Bx_change_80)
theorem ty_seed {x : Int32} : TYP PI (f_Bx_seed 0 x) := by
  unfold f_Bx_seed
  repeat' first | with_reducible (first | exact ty_rtI | exact ty_rtJ | refine ty_sc ?_ ?_ | refine ty_sn ?_ | assumption | exact hK _ | refine ty_cG (fun _ => ?_) | refine ty_toI (fun _ => ?_) _ | refine ty_toJ (fun _ => ?_) _ | refine ty_toR (fun _ => ?_) _ | refine ty_toQ (fun _ => ?_) _ | refine ty_toV ?_ _ | refine ty_iteT ?_ ?_ | refine ty_oN ?_ (fun _ => ?_) | refine ty_rI (fun _ => ?_) | refine ty_rJ (fun _ => ?_) | refine ty_rR (fun _ => ?_) | refine ty_wF ?_ | refine ty_bitT ?_ | refine ty_obT ?_ | refine ty_exT ?_ | refine ty_aI (fun _ => ?_) | refine ty_sI ?_ | refine ty_aR (fun _ => ?_) | refine ty_aLI (fun _ => ?_) | refine ty_aLQ (fun _ => ?_) | refine ty_tbT (fun _ => ?_) | refine ty_cpI ?_ | refine ty_dvT ?_ | refine ty_dvTl ?_ | refine ty_ltI (fun _ => ?_) | refine ty_ltJ (fun _ => ?_) | refine ty_loop (fun K hK q => ?_) _) | (first | fail)
theorem ty_draws {x : Int32} : TYP PI (f_Bx_draws 0 x) := by
  unfold f_Bx_draws
  repeat' first | with_reducible (first | exact ty_rtI | exact ty_rtJ | refine ty_sc ?_ ?_ | refine ty_sn ?_ | assumption | exact hK _ | refine ty_cG (fun _ => ?_) | refine ty_toI (fun _ => ?_) _ | refine ty_toJ (fun _ => ?_) _ | refine ty_toR (fun _ => ?_) _ | refine ty_toQ (fun _ => ?_) _ | refine ty_toV ?_ _ | refine ty_iteT ?_ ?_ | refine ty_oN ?_ (fun _ => ?_) | refine ty_rI (fun _ => ?_) | refine ty_rJ (fun _ => ?_) | refine ty_rR (fun _ => ?_) | refine ty_wF ?_ | refine ty_bitT ?_ | refine ty_obT ?_ | refine ty_exT ?_ | refine ty_aI (fun _ => ?_) | refine ty_sI ?_ | refine ty_aR (fun _ => ?_) | refine ty_aLI (fun _ => ?_) | refine ty_aLQ (fun _ => ?_) | refine ty_tbT (fun _ => ?_) | refine ty_cpI ?_ | refine ty_dvT ?_ | refine ty_dvTl ?_ | refine ty_ltI (fun _ => ?_) | refine ty_ltJ (fun _ => ?_) | refine ty_loop (fun K hK q => ?_) _) | (first | unfold b_Bx_draws_11 | unfold b_Bx_draws_21 | unfold b_Bx_draws_72 | unfold b_Bx_draws_74)
theorem ty_stranger {x : Int32} : TYP PI (f_Bx_stranger 0 x) := by
  unfold f_Bx_stranger
  repeat' first | with_reducible (first | exact ty_rtI | exact ty_rtJ | refine ty_sc ?_ ?_ | refine ty_sn ?_ | assumption | exact hK _ | refine ty_cG (fun _ => ?_) | refine ty_toI (fun _ => ?_) _ | refine ty_toJ (fun _ => ?_) _ | refine ty_toR (fun _ => ?_) _ | refine ty_toQ (fun _ => ?_) _ | refine ty_toV ?_ _ | refine ty_iteT ?_ ?_ | refine ty_oN ?_ (fun _ => ?_) | refine ty_rI (fun _ => ?_) | refine ty_rJ (fun _ => ?_) | refine ty_rR (fun _ => ?_) | refine ty_wF ?_ | refine ty_bitT ?_ | refine ty_obT ?_ | refine ty_exT ?_ | refine ty_aI (fun _ => ?_) | refine ty_sI ?_ | refine ty_aR (fun _ => ?_) | refine ty_aLI (fun _ => ?_) | refine ty_aLQ (fun _ => ?_) | refine ty_tbT (fun _ => ?_) | refine ty_cpI ?_ | refine ty_dvT ?_ | refine ty_dvTl ?_ | refine ty_ltI (fun _ => ?_) | refine ty_ltJ (fun _ => ?_) | refine ty_loop (fun K hK q => ?_) _) | (first | fail)
theorem ty_go {x : Int32} {y : Int32} : TYP PI (f_Bx_go 0 x y) := by
  unfold f_Bx_go
  repeat' first | with_reducible (first | exact ty_rtI | exact ty_rtJ | refine ty_sc ?_ ?_ | refine ty_sn ?_ | assumption | exact hK _ | refine ty_cG (fun _ => ?_) | refine ty_toI (fun _ => ?_) _ | refine ty_toJ (fun _ => ?_) _ | refine ty_toR (fun _ => ?_) _ | refine ty_toQ (fun _ => ?_) _ | refine ty_toV ?_ _ | refine ty_iteT ?_ ?_ | refine ty_oN ?_ (fun _ => ?_) | refine ty_rI (fun _ => ?_) | refine ty_rJ (fun _ => ?_) | refine ty_rR (fun _ => ?_) | refine ty_wF ?_ | refine ty_bitT ?_ | refine ty_obT ?_ | refine ty_exT ?_ | refine ty_aI (fun _ => ?_) | refine ty_sI ?_ | refine ty_aR (fun _ => ?_) | refine ty_aLI (fun _ => ?_) | refine ty_aLQ (fun _ => ?_) | refine ty_tbT (fun _ => ?_) | refine ty_cpI ?_ | refine ty_dvT ?_ | refine ty_dvTl ?_ | refine ty_ltI (fun _ => ?_) | refine ty_ltJ (fun _ => ?_) | refine ty_loop (fun K hK q => ?_) _) | (first | unfold b_Bx_go_75 | unfold b_Bx_go_49 | unfold b_Bx_go_18)
theorem ty_untell {x : Int32} : TYP PI (f_Bx_untell 0 x) := by
  unfold f_Bx_untell
  repeat' first | with_reducible (first | exact ty_rtI | exact ty_rtJ | refine ty_sc ?_ ?_ | refine ty_sn ?_ | assumption | exact hK _ | refine ty_cG (fun _ => ?_) | refine ty_toI (fun _ => ?_) _ | refine ty_toJ (fun _ => ?_) _ | refine ty_toR (fun _ => ?_) _ | refine ty_toQ (fun _ => ?_) _ | refine ty_toV ?_ _ | refine ty_iteT ?_ ?_ | refine ty_oN ?_ (fun _ => ?_) | refine ty_rI (fun _ => ?_) | refine ty_rJ (fun _ => ?_) | refine ty_rR (fun _ => ?_) | refine ty_wF ?_ | refine ty_bitT ?_ | refine ty_obT ?_ | refine ty_exT ?_ | refine ty_aI (fun _ => ?_) | refine ty_sI ?_ | refine ty_aR (fun _ => ?_) | refine ty_aLI (fun _ => ?_) | refine ty_aLQ (fun _ => ?_) | refine ty_tbT (fun _ => ?_) | refine ty_cpI ?_ | refine ty_dvT ?_ | refine ty_dvTl ?_ | refine ty_ltI (fun _ => ?_) | refine ty_ltJ (fun _ => ?_) | refine ty_loop (fun K hK q => ?_) _) | (first | unfold b_Bx_untell_9 | unfold b_Bx_untell_31)
theorem ty_text {x : Int32} : TYP PI (f_Bx_text 0 x) := by
  unfold f_Bx_text
  repeat' first | with_reducible (first | exact ty_rtI | exact ty_rtJ | refine ty_sc ?_ ?_ | refine ty_sn ?_ | assumption | exact hK _ | refine ty_cG (fun _ => ?_) | refine ty_toI (fun _ => ?_) _ | refine ty_toJ (fun _ => ?_) _ | refine ty_toR (fun _ => ?_) _ | refine ty_toQ (fun _ => ?_) _ | refine ty_toV ?_ _ | refine ty_iteT ?_ ?_ | refine ty_oN ?_ (fun _ => ?_) | refine ty_rI (fun _ => ?_) | refine ty_rJ (fun _ => ?_) | refine ty_rR (fun _ => ?_) | refine ty_wF ?_ | refine ty_bitT ?_ | refine ty_obT ?_ | refine ty_exT ?_ | refine ty_aI (fun _ => ?_) | refine ty_sI ?_ | refine ty_aR (fun _ => ?_) | refine ty_aLI (fun _ => ?_) | refine ty_aLQ (fun _ => ?_) | refine ty_tbT (fun _ => ?_) | refine ty_cpI ?_ | refine ty_dvT ?_ | refine ty_dvTl ?_ | refine ty_ltI (fun _ => ?_) | refine ty_ltJ (fun _ => ?_) | refine ty_loop (fun K hK q => ?_) _) | (first | unfold b_Bx_text_9 | unfold b_Bx_text_30)
theorem ty_feed {w : Int64} {y : Int32} : TYP PI (f_Bx_feed 0 w y) := by
  unfold f_Bx_feed
  repeat' first | with_reducible (first | exact ty_rtI | exact ty_rtJ | refine ty_sc ?_ ?_ | refine ty_sn ?_ | assumption | exact hK _ | refine ty_cG (fun _ => ?_) | refine ty_toI (fun _ => ?_) _ | refine ty_toJ (fun _ => ?_) _ | refine ty_toR (fun _ => ?_) _ | refine ty_toQ (fun _ => ?_) _ | refine ty_toV ?_ _ | refine ty_iteT ?_ ?_ | refine ty_oN ?_ (fun _ => ?_) | refine ty_rI (fun _ => ?_) | refine ty_rJ (fun _ => ?_) | refine ty_rR (fun _ => ?_) | refine ty_wF ?_ | refine ty_bitT ?_ | refine ty_obT ?_ | refine ty_exT ?_ | refine ty_aI (fun _ => ?_) | refine ty_sI ?_ | refine ty_aR (fun _ => ?_) | refine ty_aLI (fun _ => ?_) | refine ty_aLQ (fun _ => ?_) | refine ty_tbT (fun _ => ?_) | refine ty_cpI ?_ | refine ty_dvT ?_ | refine ty_dvTl ?_ | refine ty_ltI (fun _ => ?_) | refine ty_ltJ (fun _ => ?_) | refine ty_loop (fun K hK q => ?_) _) | (first | unfold b_Bx_feed_11 | unfold b_Bx_feed_40)
theorem ty_give {x : Int32} {y : Int32} {z : Int32} : TYP PI (f_Bx_give 0 x y z) := by
  unfold f_Bx_give
  repeat' first | with_reducible (first | exact ty_rtI | exact ty_rtJ | refine ty_sc ?_ ?_ | refine ty_sn ?_ | assumption | exact hK _ | refine ty_cG (fun _ => ?_) | refine ty_toI (fun _ => ?_) _ | refine ty_toJ (fun _ => ?_) _ | refine ty_toR (fun _ => ?_) _ | refine ty_toQ (fun _ => ?_) _ | refine ty_toV ?_ _ | refine ty_iteT ?_ ?_ | refine ty_oN ?_ (fun _ => ?_) | refine ty_rI (fun _ => ?_) | refine ty_rJ (fun _ => ?_) | refine ty_rR (fun _ => ?_) | refine ty_wF ?_ | refine ty_bitT ?_ | refine ty_obT ?_ | refine ty_exT ?_ | refine ty_aI (fun _ => ?_) | refine ty_sI ?_ | refine ty_aR (fun _ => ?_) | refine ty_aLI (fun _ => ?_) | refine ty_aLQ (fun _ => ?_) | refine ty_tbT (fun _ => ?_) | refine ty_cpI ?_ | refine ty_dvT ?_ | refine ty_dvTl ?_ | refine ty_ltI (fun _ => ?_) | refine ty_ltJ (fun _ => ?_) | refine ty_loop (fun K hK q => ?_) _) | (first | unfold b_Bx_give_28)
theorem ty_personIs {x : Int32} {y : Int32} : TYP PI (f_Bx_personIs 0 x y) := by
  unfold f_Bx_personIs
  repeat' first | with_reducible (first | exact ty_rtI | exact ty_rtJ | refine ty_sc ?_ ?_ | refine ty_sn ?_ | assumption | exact hK _ | refine ty_cG (fun _ => ?_) | refine ty_toI (fun _ => ?_) _ | refine ty_toJ (fun _ => ?_) _ | refine ty_toR (fun _ => ?_) _ | refine ty_toQ (fun _ => ?_) _ | refine ty_toV ?_ _ | refine ty_iteT ?_ ?_ | refine ty_oN ?_ (fun _ => ?_) | refine ty_rI (fun _ => ?_) | refine ty_rJ (fun _ => ?_) | refine ty_rR (fun _ => ?_) | refine ty_wF ?_ | refine ty_bitT ?_ | refine ty_obT ?_ | refine ty_exT ?_ | refine ty_aI (fun _ => ?_) | refine ty_sI ?_ | refine ty_aR (fun _ => ?_) | refine ty_aLI (fun _ => ?_) | refine ty_aLQ (fun _ => ?_) | refine ty_tbT (fun _ => ?_) | refine ty_cpI ?_ | refine ty_dvT ?_ | refine ty_dvTl ?_ | refine ty_ltI (fun _ => ?_) | refine ty_ltJ (fun _ => ?_) | refine ty_loop (fun K hK q => ?_) _) | (first | unfold b_Bx_personIs_21 | unfold b_Bx_personIs_69)
theorem ty_person : TYP PI (f_Bx_person 0) := by
  unfold f_Bx_person
  repeat' first | with_reducible (first | exact ty_rtI | exact ty_rtJ | refine ty_sc ?_ ?_ | refine ty_sn ?_ | assumption | exact hK _ | refine ty_cG (fun _ => ?_) | refine ty_toI (fun _ => ?_) _ | refine ty_toJ (fun _ => ?_) _ | refine ty_toR (fun _ => ?_) _ | refine ty_toQ (fun _ => ?_) _ | refine ty_toV ?_ _ | refine ty_iteT ?_ ?_ | refine ty_oN ?_ (fun _ => ?_) | refine ty_rI (fun _ => ?_) | refine ty_rJ (fun _ => ?_) | refine ty_rR (fun _ => ?_) | refine ty_wF ?_ | refine ty_bitT ?_ | refine ty_obT ?_ | refine ty_exT ?_ | refine ty_aI (fun _ => ?_) | refine ty_sI ?_ | refine ty_aR (fun _ => ?_) | refine ty_aLI (fun _ => ?_) | refine ty_aLQ (fun _ => ?_) | refine ty_tbT (fun _ => ?_) | refine ty_cpI ?_ | refine ty_dvT ?_ | refine ty_dvTl ?_ | refine ty_ltI (fun _ => ?_) | refine ty_ltJ (fun _ => ?_) | refine ty_loop (fun K hK q => ?_) _) | (first | fail)
theorem ty_coin {x : Int32} : TYP PI (f_Bx_coin 0 x) := by
  unfold f_Bx_coin
  repeat' first | with_reducible (first | exact ty_rtI | exact ty_rtJ | refine ty_sc ?_ ?_ | refine ty_sn ?_ | assumption | exact hK _ | refine ty_cG (fun _ => ?_) | refine ty_toI (fun _ => ?_) _ | refine ty_toJ (fun _ => ?_) _ | refine ty_toR (fun _ => ?_) _ | refine ty_toQ (fun _ => ?_) _ | refine ty_toV ?_ _ | refine ty_iteT ?_ ?_ | refine ty_oN ?_ (fun _ => ?_) | refine ty_rI (fun _ => ?_) | refine ty_rJ (fun _ => ?_) | refine ty_rR (fun _ => ?_) | refine ty_wF ?_ | refine ty_bitT ?_ | refine ty_obT ?_ | refine ty_exT ?_ | refine ty_aI (fun _ => ?_) | refine ty_sI ?_ | refine ty_aR (fun _ => ?_) | refine ty_aLI (fun _ => ?_) | refine ty_aLQ (fun _ => ?_) | refine ty_tbT (fun _ => ?_) | refine ty_cpI ?_ | refine ty_dvT ?_ | refine ty_dvTl ?_ | refine ty_ltI (fun _ => ?_) | refine ty_ltJ (fun _ => ?_) | refine ty_loop (fun K hK q => ?_) _) | (first | unfold b_Bx_coin_18)
theorem ty_empty : TYP PI (f_Bx_empty 0) := by
  unfold f_Bx_empty
  repeat' first | with_reducible (first | exact ty_rtI | exact ty_rtJ | refine ty_sc ?_ ?_ | refine ty_sn ?_ | assumption | exact hK _ | refine ty_cG (fun _ => ?_) | refine ty_toI (fun _ => ?_) _ | refine ty_toJ (fun _ => ?_) _ | refine ty_toR (fun _ => ?_) _ | refine ty_toQ (fun _ => ?_) _ | refine ty_toV ?_ _ | refine ty_iteT ?_ ?_ | refine ty_oN ?_ (fun _ => ?_) | refine ty_rI (fun _ => ?_) | refine ty_rJ (fun _ => ?_) | refine ty_rR (fun _ => ?_) | refine ty_wF ?_ | refine ty_bitT ?_ | refine ty_obT ?_ | refine ty_exT ?_ | refine ty_aI (fun _ => ?_) | refine ty_sI ?_ | refine ty_aR (fun _ => ?_) | refine ty_aLI (fun _ => ?_) | refine ty_aLQ (fun _ => ?_) | refine ty_tbT (fun _ => ?_) | refine ty_cpI ?_ | refine ty_dvT ?_ | refine ty_dvTl ?_ | refine ty_ltI (fun _ => ?_) | refine ty_ltJ (fun _ => ?_) | refine ty_loop (fun K hK q => ?_) _) | (first | fail)
theorem ty_lay {x : Int32} {y : Int32} : TYP PI (f_Bx_lay 0 x y) := by
  unfold f_Bx_lay
  repeat' first | with_reducible (first | exact ty_rtI | exact ty_rtJ | refine ty_sc ?_ ?_ | refine ty_sn ?_ | assumption | exact hK _ | refine ty_cG (fun _ => ?_) | refine ty_toI (fun _ => ?_) _ | refine ty_toJ (fun _ => ?_) _ | refine ty_toR (fun _ => ?_) _ | refine ty_toQ (fun _ => ?_) _ | refine ty_toV ?_ _ | refine ty_iteT ?_ ?_ | refine ty_oN ?_ (fun _ => ?_) | refine ty_rI (fun _ => ?_) | refine ty_rJ (fun _ => ?_) | refine ty_rR (fun _ => ?_) | refine ty_wF ?_ | refine ty_bitT ?_ | refine ty_obT ?_ | refine ty_exT ?_ | refine ty_aI (fun _ => ?_) | refine ty_sI ?_ | refine ty_aR (fun _ => ?_) | refine ty_aLI (fun _ => ?_) | refine ty_aLQ (fun _ => ?_) | refine ty_tbT (fun _ => ?_) | refine ty_cpI ?_ | refine ty_dvT ?_ | refine ty_dvTl ?_ | refine ty_ltI (fun _ => ?_) | refine ty_ltJ (fun _ => ?_) | refine ty_loop (fun K hK q => ?_) _) | (first | unfold b_Bx_lay_16)
theorem ty_as {x : Int32} : TYP PI (f_Bx_as 0 x) := by
  unfold f_Bx_as
  repeat' first | with_reducible (first | exact ty_rtI | exact ty_rtJ | refine ty_sc ?_ ?_ | refine ty_sn ?_ | assumption | exact hK _ | refine ty_cG (fun _ => ?_) | refine ty_toI (fun _ => ?_) _ | refine ty_toJ (fun _ => ?_) _ | refine ty_toR (fun _ => ?_) _ | refine ty_toQ (fun _ => ?_) _ | refine ty_toV ?_ _ | refine ty_iteT ?_ ?_ | refine ty_oN ?_ (fun _ => ?_) | refine ty_rI (fun _ => ?_) | refine ty_rJ (fun _ => ?_) | refine ty_rR (fun _ => ?_) | refine ty_wF ?_ | refine ty_bitT ?_ | refine ty_obT ?_ | refine ty_exT ?_ | refine ty_aI (fun _ => ?_) | refine ty_sI ?_ | refine ty_aR (fun _ => ?_) | refine ty_aLI (fun _ => ?_) | refine ty_aLQ (fun _ => ?_) | refine ty_tbT (fun _ => ?_) | refine ty_cpI ?_ | refine ty_dvT ?_ | refine ty_dvTl ?_ | refine ty_ltI (fun _ => ?_) | refine ty_ltJ (fun _ => ?_) | refine ty_loop (fun K hK q => ?_) _) | (first | fail)
theorem ty_box {x : Int32} : TYP PI (f_Bx_box 0 x) := by
  unfold f_Bx_box
  repeat' first | with_reducible (first | exact ty_rtI | exact ty_rtJ | refine ty_sc ?_ ?_ | refine ty_sn ?_ | assumption | exact hK _ | refine ty_cG (fun _ => ?_) | refine ty_toI (fun _ => ?_) _ | refine ty_toJ (fun _ => ?_) _ | refine ty_toR (fun _ => ?_) _ | refine ty_toQ (fun _ => ?_) _ | refine ty_toV ?_ _ | refine ty_iteT ?_ ?_ | refine ty_oN ?_ (fun _ => ?_) | refine ty_rI (fun _ => ?_) | refine ty_rJ (fun _ => ?_) | refine ty_rR (fun _ => ?_) | refine ty_wF ?_ | refine ty_bitT ?_ | refine ty_obT ?_ | refine ty_exT ?_ | refine ty_aI (fun _ => ?_) | refine ty_sI ?_ | refine ty_aR (fun _ => ?_) | refine ty_aLI (fun _ => ?_) | refine ty_aLQ (fun _ => ?_) | refine ty_tbT (fun _ => ?_) | refine ty_cpI ?_ | refine ty_dvT ?_ | refine ty_dvTl ?_ | refine ty_ltI (fun _ => ?_) | refine ty_ltJ (fun _ => ?_) | refine ty_loop (fun K hK q => ?_) _) | (first | unfold b_Bx_box_10)
theorem ty_ticket {x : Int32} : TYP PI (f_Bx_ticket 0 x) := by
  unfold f_Bx_ticket
  repeat' first | with_reducible (first | exact ty_rtI | exact ty_rtJ | refine ty_sc ?_ ?_ | refine ty_sn ?_ | assumption | exact hK _ | refine ty_cG (fun _ => ?_) | refine ty_toI (fun _ => ?_) _ | refine ty_toJ (fun _ => ?_) _ | refine ty_toR (fun _ => ?_) _ | refine ty_toQ (fun _ => ?_) _ | refine ty_toV ?_ _ | refine ty_iteT ?_ ?_ | refine ty_oN ?_ (fun _ => ?_) | refine ty_rI (fun _ => ?_) | refine ty_rJ (fun _ => ?_) | refine ty_rR (fun _ => ?_) | refine ty_wF ?_ | refine ty_bitT ?_ | refine ty_obT ?_ | refine ty_exT ?_ | refine ty_aI (fun _ => ?_) | refine ty_sI ?_ | refine ty_aR (fun _ => ?_) | refine ty_aLI (fun _ => ?_) | refine ty_aLQ (fun _ => ?_) | refine ty_tbT (fun _ => ?_) | refine ty_cpI ?_ | refine ty_dvT ?_ | refine ty_dvTl ?_ | refine ty_ltI (fun _ => ?_) | refine ty_ltJ (fun _ => ?_) | refine ty_loop (fun K hK q => ?_) _) | (first | unfold b_Bx_ticket_10)
theorem ty_worth {x : Int32} {y : Int32} : TYP PI (f_Bx_worth 0 x y) := by
  unfold f_Bx_worth
  repeat' first | with_reducible (first | exact ty_rtI | exact ty_rtJ | refine ty_sc ?_ ?_ | refine ty_sn ?_ | assumption | exact hK _ | refine ty_cG (fun _ => ?_) | refine ty_toI (fun _ => ?_) _ | refine ty_toJ (fun _ => ?_) _ | refine ty_toR (fun _ => ?_) _ | refine ty_toQ (fun _ => ?_) _ | refine ty_toV ?_ _ | refine ty_iteT ?_ ?_ | refine ty_oN ?_ (fun _ => ?_) | refine ty_rI (fun _ => ?_) | refine ty_rJ (fun _ => ?_) | refine ty_rR (fun _ => ?_) | refine ty_wF ?_ | refine ty_bitT ?_ | refine ty_obT ?_ | refine ty_exT ?_ | refine ty_aI (fun _ => ?_) | refine ty_sI ?_ | refine ty_aR (fun _ => ?_) | refine ty_aLI (fun _ => ?_) | refine ty_aLQ (fun _ => ?_) | refine ty_tbT (fun _ => ?_) | refine ty_cpI ?_ | refine ty_dvT ?_ | refine ty_dvTl ?_ | refine ty_ltI (fun _ => ?_) | refine ty_ltJ (fun _ => ?_) | refine ty_loop (fun K hK q => ?_) _) | (first | unfold b_Bx_worth_18)
