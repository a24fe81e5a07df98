def cc (x : Nat) : Int := ((10 * (x / 2) + x % 2 : Nat) : Int)
def HeapC (I : Mem) (c : Nat) (hs : List Nat) : Prop := I c 1 = ii hs.length ∧ I c 2 = ii 24 ∧ ∀ j, j < hs.length → I (c + 1) j = ii (cc (hs.getD j 0))
def HeapM (I : Mem) (r : Nat) (hs : List Nat) : Prop := I r 0 = ii hs.length ∧ ∀ j, j < hs.length → I r (16 + j) = ii (hs.getD j 0 : Nat)
def coins (hs : List Nat) : Prop := hs.length ≤ 24 ∧ ∀ j, j < hs.length → hs.getD j 0 < 12
def HW (I : Mem) (b r : Nat) : Prop := ∀ t, t < 6 → ∃ z : Int, 1 ≤ z ∧ z ≤ 99 ∧ I r (10 + t) = ii z ∧ I (b + 1) t = ii z
def HS (I : Mem) (b r : Nat) : Prop := (∃ p : Int, 0 ≤ p ∧ p ≤ 99 ∧ I r 3 = ii p ∧ I b 8 = ii p) ∧ (∃ k : Int, 0 ≤ k ∧ k ≤ 6 ∧ I r 4 = ii k ∧ I b 9 = ii k) ∧ (∃ m : Int, 0 ≤ m ∧ m ≤ 9 ∧ I r 5 = ii m ∧ I b 10 = ii m) ∧ I b 11 = I r 2 ∧ I b 15 = I r 8
def HH (I : Mem) (b r : Nat) : Prop := ∃ hs : List Nat, coins hs ∧ HeapC I (b + 2) hs ∧ HeapM I r hs
def HP1 (I : Mem) (b r : Nat) (n : Nat) : Prop := (∀ p, p < n → (∀ t, t < 6 → ∃ z : Int, 0 ≤ z ∧ z ≤ 99 ∧ I r (40 + 7 * p + t) = ii z ∧ I (b + 11) (6 * p + t) = ii z) ∧ I (b + 4) p = I r (40 + 7 * p + 6)) ∧ (∀ p, n ≤ p → p < 6 → (∀ t, t < 6 → I (b + 11) (6 * p + t) = ii 0) ∧ I (b + 4) p = ii 0)
def HPe (I : Mem) (b r : Nat) : Prop := ∃ n : Nat, n ≤ 6 ∧ I r 1 = ii n ∧ I b 12 = ii n ∧ HP1 I b r n
def HT (I : Mem) (b r : Nat) : Prop := ∃ n : Nat, n ≤ 60 ∧ I r 6 = ii n ∧ I b 13 = ii n ∧ ∀ j, j < n → ∃ z : Int, 0 ≤ z ∧ z ≤ 255 ∧ I r (332 + j) = ii z ∧ I (b + 12) j = ii z
def HN (I : Mem) (b r : Nat) : Prop := ∃ n : Nat, n ≤ 24 ∧ I r 7 = ii n ∧ I b 14 = ii n ∧ ∀ j, j < n → I r (392 + j) = I (b + 13) j
def plc (u v : Nat) : Nat := if u = 0 then (if v = 119 then 0 else if v = 108 then 1 else if v = 107 then 2 else 3) else (if v = 115 then 0 else if v = 119 then 1 else 2)
def tkC (u : Nat) (x : Nat × Nat) : Int := if x.1 = 0 then (x.2 : Int) else if x.1 = 1 then 10000 + (plc u x.2 : Int) else if x.1 = 2 then 20033 else 20000 + (x.2 : Int)
def sgns : List Nat := [124, 38, 60, 61, 62, 43, 45, 42, 47, 37]
def tkOK (u : Nat) (x : Nat × Nat) : Bool := (Nat.beq x.1 0 && Nat.blt x.2 10000) || (Nat.beq x.1 1 && (if u = 0 then [119, 108, 107, 109] else [115, 119, 116]).contains x.2) || (Nat.beq x.1 2 && Nat.beq x.2 0) || (Nat.beq x.1 3 && sgns.contains x.2)
def okT : List (Nat × Nat) → Nat → Bool
  | [], d => Nat.beq d 1
  | x :: l, d => if x.1 ≤ 1 then okT l (d + 1) else if x.1 = 2 then Nat.ble 1 d && okT l d else Nat.ble 2 d && okT l (d - 1)
def HX1 (I : Mem) (tc r u : Nat) (ts : List (Nat × Nat)) : Prop := I tc 2 = ii ts.length ∧ I r (82 + 125 * u) = ii ts.length ∧ ∀ k, k < ts.length → I (tc + 1) k = ii (tkC u (ts.getD k (0, 0))) ∧ I r (83 + 125 * u + 2 * k) = ii ((ts.getD k (0, 0)).1 : Nat) ∧ I r (84 + 125 * u + 2 * k) = ii ((ts.getD k (0, 0)).2 : Nat)
def textOK (u : Nat) (ts : List (Nat × Nat)) : Prop := ts.length ≤ 60 ∧ (ts ≠ [] → okT ts 0 = true) ∧ (∀ k, k < ts.length → tkOK u (ts.getD k (0, 0)) = true)
def HX (I : Mem) (tc r u : Nat) : Prop := ∃ ts : List (Nat × Nat), textOK u ts ∧ HX1 I tc r u ts
def Hal (I : Mem) (b r : Nat) : Prop := HW I b r ∧ HS I b r ∧ HH I b r ∧ HPe I b r ∧ HT I b r ∧ HN I b r ∧ HX I (b + 5) r 0 ∧ HX I (b + 8) r 1
def KI (I : Mem) : Prop := I 0 8 = I 75 3 ∧ I 17 2 = ii 24 ∧ (I 75 3 = ii 0 ∨ Hal I 15 77)
def ER (I : Mem) : Prop := ∀ k, k < 7 → I 74 k = I 79 k
def SHo (I : Mem) (i : Nat) : Prop := ∃ b n : Int, (b = 0 ∨ b = 8 ∨ b = 16 ∨ b = 32) ∧ 0 ≤ n ∧ n ≤ 24 ∧ I (66 + 2 * i) 1 = ii b ∧ I 89 i = ii b ∧ I (66 + 2 * i) 2 = ii n ∧ I 90 i = ii n ∧ ∀ k, k < 24 → I (67 + 2 * i) k = I 91 (24 * i + k)
def SH (I : Mem) : Prop := ∀ i, i < 4 → SHo I i
def TR (I : Mem) : Prop := ∃ n : Nat, n ≤ 30 ∧ I 63 1 = ii n ∧ I 75 28 = ii n ∧ ∀ k, k < n → I 64 k = I 88 k
def FG (I : Mem) : Prop := ∀ i, i < 7 → I (34 + 2 * i) 2 = ii 24
def Inv (I : Mem) : Prop := HW I 1 76 ∧ HS I 1 76 ∧ HH I 1 76 ∧ HPe I 1 76 ∧ HT I 1 76 ∧ HN I 1 76 ∧ HX I 6 76 0 ∧ HX I 9 76 1 ∧ KI I ∧ ER I ∧ SH I ∧ TR I ∧ FG I
section
variable {I I' : Mem} {b r b' r' : Nat}
theorem HW_fr (h : HW I b r) (h1 : ∀ t, t < 6 → I' (b' + 1) t = I (b + 1) t) (h2 : ∀ t, t < 6 → I' r' (10 + t) = I r (10 + t)) : HW I' b' r' := by
  intro t ht
  obtain ⟨z, a, b, c, d⟩ := h t ht
  exact ⟨z, a, b, by rw [h2 t ht, c], by rw [h1 t ht, d]⟩
theorem HS_fr (h : HS I b r) (h1 : ∀ k, 8 ≤ k → k ≤ 11 → I' b' k = I b k) (h2 : I' b' 15 = I b 15) (h3 : ∀ k, 2 ≤ k → k ≤ 5 → I' r' k = I r k) (h4 : I' r' 8 = I r 8) : HS I' b' r' := by
  obtain ⟨⟨p, p1, p2, p3, p4⟩, ⟨k, k1, k2, k3, k4⟩, ⟨m, m1, m2, m3, m4⟩, t, z⟩ := h
  refine ⟨⟨p, p1, p2, ?_, ?_⟩, ⟨k, k1, k2, ?_, ?_⟩, ⟨m, m1, m2, ?_, ?_⟩, ?_, ?_⟩
  · rw [h3 3 (by omega) (by omega), p3]
  · rw [h1 8 (by omega) (by omega), p4]
  · rw [h3 4 (by omega) (by omega), k3]
  · rw [h1 9 (by omega) (by omega), k4]
  · rw [h3 5 (by omega) (by omega), m3]
  · rw [h1 10 (by omega) (by omega), m4]
  · rw [h1 11 (by omega) (by omega), h3 2 (by omega) (by omega), t]
  · rw [h2, h4, z]
theorem HeapC_fr {c c' : Nat} {hs : List Nat} (h : HeapC I c hs) (h1 : I' c' 1 = I c 1) (h2 : I' c' 2 = I c 2) (h3 : ∀ j, j < hs.length → I' (c' + 1) j = I (c + 1) j) : HeapC I' c' hs := by
  obtain ⟨a, b, d⟩ := h
  exact ⟨by rw [h1, a], by rw [h2, b], fun j hj => by rw [h3 j hj, d j hj]⟩
theorem HeapM_fr {hs : List Nat} (h : HeapM I r hs) (h1 : I' r' 0 = I r 0) (h2 : ∀ j, j < hs.length → I' r' (16 + j) = I r (16 + j)) : HeapM I' r' hs := by
  obtain ⟨a, d⟩ := h
  exact ⟨by rw [h1, a], fun j hj => by rw [h2 j hj, d j hj]⟩
theorem HH_fr (h : HH I b r) (h1 : I' (b' + 2) 1 = I (b + 2) 1) (h2 : I' (b' + 2) 2 = I (b + 2) 2) (h3 : ∀ j, j < 24 → I' (b' + 2 + 1) j = I (b + 2 + 1) j) (h4 : I' r' 0 = I r 0) (h5 : ∀ j, j < 24 → I' r' (16 + j) = I r (16 + j)) : HH I' b' r' := by
  obtain ⟨hs, c, d, e⟩ := h
  have := c.1
  exact ⟨hs, c, HeapC_fr d h1 h2 (fun j hj => h3 j (by omega)), HeapM_fr e h4 (fun j hj => h5 j (by omega))⟩
theorem HP1_fr {n : Nat} (hn : n ≤ 6) (h : HP1 I b r n) (h1 : ∀ p t, p < 6 → t < 6 → I' (b' + 11) (6 * p + t) = I (b + 11) (6 * p + t)) (h2 : ∀ p, p < 6 → I' (b' + 4) p = I (b + 4) p) (h3 : ∀ p t, p < n → t < 7 → I' r' (40 + 7 * p + t) = I r (40 + 7 * p + t)) : HP1 I' b' r' n := by
  obtain ⟨d, e⟩ := h
  refine ⟨fun p hp => ⟨fun t ht => ?_, ?_⟩, fun p hp hp6 => ⟨fun t ht => ?_, ?_⟩⟩
  · obtain ⟨z, z1, z2, z3, z4⟩ := (d p hp).1 t ht
    exact ⟨z, z1, z2, by rw [h3 p t hp (by omega), z3], by rw [h1 p t (by omega) ht, z4]⟩
  · rw [h2 p (by omega), h3 p 6 hp (by omega), (d p hp).2]
  · rw [h1 p t hp6 ht, (e p hp hp6).1 t ht]
  · rw [h2 p hp6, (e p hp hp6).2]
theorem HPe_fr (h : HPe I b r) (h1 : I' b' 12 = I b 12) (h2 : I' r' 1 = I r 1) (h3 : ∀ p t, p < 6 → t < 6 → I' (b' + 11) (6 * p + t) = I (b + 11) (6 * p + t)) (h4 : ∀ p, p < 6 → I' (b' + 4) p = I (b + 4) p) (h5 : ∀ p t, p < 6 → t < 7 → I' r' (40 + 7 * p + t) = I r (40 + 7 * p + t)) : HPe I' b' r' := by
  obtain ⟨n, a, c, d, e⟩ := h
  exact ⟨n, a, by rw [h2, c], by rw [h1, d], HP1_fr a e h3 h4 (fun p t hp ht => h5 p t (by omega) ht)⟩
theorem HT_fr (h : HT I b r) (h1 : I' b' 13 = I b 13) (h2 : I' r' 6 = I r 6) (h3 : ∀ j, j < 60 → I' (b' + 12) j = I (b + 12) j) (h4 : ∀ j, j < 60 → I' r' (332 + j) = I r (332 + j)) : HT I' b' r' := by
  obtain ⟨n, a, c, d, e⟩ := h
  refine ⟨n, a, by rw [h2, c], by rw [h1, d], fun j hj => ?_⟩
  obtain ⟨z, z1, z2, z3, z4⟩ := e j hj
  exact ⟨z, z1, z2, by rw [h4 j (by omega), z3], by rw [h3 j (by omega), z4]⟩
theorem HN_fr (h : HN I b r) (h1 : I' b' 14 = I b 14) (h2 : I' r' 7 = I r 7) (h3 : ∀ j, j < 24 → I' (b' + 13) j = I (b + 13) j) (h4 : ∀ j, j < 24 → I' r' (392 + j) = I r (392 + j)) : HN I' b' r' := by
  obtain ⟨n, a, c, d, e⟩ := h
  exact ⟨n, a, by rw [h2, c], by rw [h1, d], fun j hj => by rw [h3 j (by omega), h4 j (by omega), e j hj]⟩
theorem HX_fr {tc tc' u : Nat} (h : HX I tc r u) (h1 : I' tc' 2 = I tc 2) (h2 : ∀ j, j < 60 → I' (tc' + 1) j = I (tc + 1) j) (h3 : ∀ j, j < 121 → I' r' (82 + 125 * u + j) = I r (82 + 125 * u + j)) : HX I' tc' r' u := by
  obtain ⟨ts, a, c, d, e⟩ := h
  have hl := a.1
  refine ⟨ts, a, by rw [h1, c], ?_, fun k hk => ?_⟩
  · have := h3 0 (by omega)
    simp only [Nat.add_zero] at this
    rw [this, d]
  · obtain ⟨e1, e2, e3⟩ := e k hk
    refine ⟨by rw [h2 k (by omega), e1], ?_, ?_⟩
    · have := h3 (1 + 2 * k) (by omega)
      rw [show 82 + 125 * u + (1 + 2 * k) = 83 + 125 * u + 2 * k by omega] at this
      rw [this, e2]
    · have := h3 (2 + 2 * k) (by omega)
      rw [show 82 + 125 * u + (2 + 2 * k) = 84 + 125 * u + 2 * k by omega] at this
      rw [this, e3]
theorem Hal_fr (h : Hal I b r) (h1 : ∀ c k, c < 14 → c ≠ 7 → c ≠ 10 → I' (b' + c) k = I (b + c) k) (h2 : ∀ k, I' r' k = I r k) : Hal I' b' r' := by
  obtain ⟨a1, a2, a3, a4, a5, a6, a7, a8⟩ := h
  exact ⟨HW_fr a1 (fun t _ => h1 1 t (by omega) (by omega) (by omega)) (fun t _ => h2 _),
    HS_fr a2 (fun k _ _ => h1 0 k (by omega) (by omega) (by omega)) (h1 0 15 (by omega) (by omega) (by omega)) (fun k _ _ => h2 _) (h2 _),
    HH_fr a3 (h1 2 1 (by omega) (by omega) (by omega)) (h1 2 2 (by omega) (by omega) (by omega)) (fun j _ => h1 3 j (by omega) (by omega) (by omega)) (h2 _) (fun j _ => h2 _),
    HPe_fr a4 (h1 0 12 (by omega) (by omega) (by omega)) (h2 _) (fun p t _ _ => h1 11 _ (by omega) (by omega) (by omega)) (fun p _ => h1 4 _ (by omega) (by omega) (by omega)) (fun p t _ _ => h2 _),
    HT_fr a5 (h1 0 13 (by omega) (by omega) (by omega)) (h2 _) (fun j _ => h1 12 _ (by omega) (by omega) (by omega)) (fun j _ => h2 _),
    HN_fr a6 (h1 0 14 (by omega) (by omega) (by omega)) (h2 _) (fun j _ => h1 13 _ (by omega) (by omega) (by omega)) (fun j _ => h2 _),
    HX_fr a7 (h1 5 2 (by omega) (by omega) (by omega)) (fun j _ => h1 6 _ (by omega) (by omega) (by omega)) (fun j _ => h2 _),
    HX_fr a8 (h1 8 2 (by omega) (by omega) (by omega)) (fun j _ => h1 9 _ (by omega) (by omega) (by omega)) (fun j _ => h2 _)⟩
theorem KI_fr (h : KI I) (h1 : I' 0 8 = I 0 8) (h2 : I' 75 3 = I 75 3) (h3 : ∀ c k, 15 ≤ c → c < 29 → c ≠ 22 → c ≠ 25 → I' c k = I c k) (h4 : ∀ k, I' 77 k = I 77 k) : KI I' := by
  obtain ⟨a, g, c⟩ := h
  refine ⟨by rw [h1, h2, a], by rw [h3 17 2 (by omega) (by omega) (by omega) (by omega), g], ?_⟩
  rcases c with c | c
  · exact Or.inl (by rw [h2, c])
  · exact Or.inr (Hal_fr c (fun d k a1 a2 a3 => h3 (15 + d) k (by omega) (by omega) (by omega) (by omega)) h4)
theorem ER_fr (h : ER I) (h1 : ∀ k, k < 7 → I' 74 k = I 74 k) (h2 : ∀ k, k < 7 → I' 79 k = I 79 k) : ER I' := fun k hk => by rw [h1 k hk, h2 k hk, h k hk]
theorem SHo_fr {i : Nat} (h : SHo I i) (h1 : ∀ k, 1 ≤ k → k ≤ 2 → I' (66 + 2 * i) k = I (66 + 2 * i) k) (h2 : ∀ k, k < 24 → I' (67 + 2 * i) k = I (67 + 2 * i) k) (h3 : I' 89 i = I 89 i) (h4 : I' 90 i = I 90 i) (h5 : ∀ k, k < 24 → I' 91 (24 * i + k) = I 91 (24 * i + k)) : SHo I' i := by
  obtain ⟨b, n, a1, a2, a3, a4, a5, a6, a7, a8⟩ := h
  exact ⟨b, n, a1, a2, a3, by rw [h1 1 (by omega) (by omega), a4], by rw [h3, a5], by rw [h1 2 (by omega) (by omega), a6], by rw [h4, a7], fun k hk => by rw [h2 k hk, h5 k hk, a8 k hk]⟩
theorem SH_fr (h : SH I) (h1 : ∀ i k, i < 4 → 1 ≤ k → k ≤ 2 → I' (66 + 2 * i) k = I (66 + 2 * i) k) (h2 : ∀ i k, i < 4 → k < 24 → I' (67 + 2 * i) k = I (67 + 2 * i) k) (h3 : ∀ i, i < 4 → I' 89 i = I 89 i) (h4 : ∀ i, i < 4 → I' 90 i = I 90 i) (h5 : ∀ k, k < 96 → I' 91 k = I 91 k) : SH I' :=
  fun i hi => SHo_fr (h i hi) (fun k a b => h1 i k hi a b) (fun k a => h2 i k hi a) (h3 i hi) (h4 i hi) (fun k a => h5 _ (by omega))
theorem FG_fr (h : FG I) (h1 : ∀ i, i < 7 → I' (34 + 2 * i) 2 = I (34 + 2 * i) 2) : FG I' := fun i hi => by rw [h1 i hi, h i hi]
theorem TR_fr (h : TR I) (h1 : I' 63 1 = I 63 1) (h2 : I' 75 28 = I 75 28) (h3 : ∀ k, k < 30 → I' 64 k = I 64 k) (h4 : ∀ k, k < 30 → I' 88 k = I 88 k) : TR I' := by
  obtain ⟨n, a, c, d, e⟩ := h
  exact ⟨n, a, by rw [h1, c], by rw [h2, d], fun k hk => by rw [h3 k (by omega), h4 k (by omega), e k hk]⟩
end
def Res (r : Value) (v : Option Value) (y : HP) : Prop := ∃ I2 J2, v = some r ∧ y = M I2 J2 ∧ Inv I2
def Nx (g : HP → RS) (v : Option Value) (y : HP) : Prop := ∃ r I1 J1, v = some r ∧ y = M I1 J1 ∧ wp g (Res r) (M I1 J1)
def Same (f g : HP → RS) (I : Mem) (J : Nat → Int64) : Prop := wp f (Nx g) (M I J)
theorem Nx_mk {g : HP → RS} {r : Value} {I1 : Mem} {J1 : Nat → Int64} (h : wp g (Res r) (M I1 J1)) : Nx g (some r) (M I1 J1) := ⟨r, I1, J1, rfl, rfl, h⟩
theorem Res_mk {r r' : Int32} {I2 : Mem} {J2 : Nat → Int64} (h : r' = r) (hI : Inv I2) : Res (.int r) (some (.int r')) (M I2 J2) := ⟨I2, J2, by rw [h], rfl, hI⟩
theorem Res_mkJ {r r' : Int64} {I2 : Mem} {J2 : Nat → Int64} (h : r' = r) (hI : Inv I2) : Res (.long r) (some (.long r')) (M I2 J2) := ⟨I2, J2, by rw [h], rfl, hI⟩
theorem inv_err {I : Mem} (h : Inv I) {k : Nat} (hk : k < 7) : Inv (st (st I 74 k (I 74 k + ii 1)) 79 k (I 79 k + ii 1)) := by
  obtain ⟨a1, a2, a3, a4, a5, a6, a7, a8, a9, a10, a11, a12, a13⟩ := h
  refine ⟨HW_fr a1 (by (intros; simp (disch := omega) only [stn, sty, san, say, Int.toNat_natCast])) (by (intros; simp (disch := omega) only [stn, sty, san, say, Int.toNat_natCast])), HS_fr a2 (by (intros; simp (disch := omega) only [stn, sty, san, say, Int.toNat_natCast])) (by (intros; simp (disch := omega) only [stn, sty, san, say, Int.toNat_natCast])) (by (intros; simp (disch := omega) only [stn, sty, san, say, Int.toNat_natCast])) (by (intros; simp (disch := omega) only [stn, sty, san, say, Int.toNat_natCast])), HH_fr a3 (by (intros; simp (disch := omega) only [stn, sty, san, say, Int.toNat_natCast])) (by (intros; simp (disch := omega) only [stn, sty, san, say, Int.toNat_natCast])) (by (intros; simp (disch := omega) only [stn, sty, san, say, Int.toNat_natCast])) (by (intros; simp (disch := omega) only [stn, sty, san, say, Int.toNat_natCast])) (by (intros; simp (disch := omega) only [stn, sty, san, say, Int.toNat_natCast])), HPe_fr a4 (by (intros; simp (disch := omega) only [stn, sty, san, say, Int.toNat_natCast])) (by (intros; simp (disch := omega) only [stn, sty, san, say, Int.toNat_natCast])) (by (intros; simp (disch := omega) only [stn, sty, san, say, Int.toNat_natCast])) (by (intros; simp (disch := omega) only [stn, sty, san, say, Int.toNat_natCast])) (by (intros; simp (disch := omega) only [stn, sty, san, say, Int.toNat_natCast])), HT_fr a5 (by (intros; simp (disch := omega) only [stn, sty, san, say, Int.toNat_natCast])) (by (intros; simp (disch := omega) only [stn, sty, san, say, Int.toNat_natCast])) (by (intros; simp (disch := omega) only [stn, sty, san, say, Int.toNat_natCast])) (by (intros; simp (disch := omega) only [stn, sty, san, say, Int.toNat_natCast])), HN_fr a6 (by (intros; simp (disch := omega) only [stn, sty, san, say, Int.toNat_natCast])) (by (intros; simp (disch := omega) only [stn, sty, san, say, Int.toNat_natCast])) (by (intros; simp (disch := omega) only [stn, sty, san, say, Int.toNat_natCast])) (by (intros; simp (disch := omega) only [stn, sty, san, say, Int.toNat_natCast])), HX_fr a7 (by (intros; simp (disch := omega) only [stn, sty, san, say, Int.toNat_natCast])) (by (intros; simp (disch := omega) only [stn, sty, san, say, Int.toNat_natCast])) (by (intros; simp (disch := omega) only [stn, sty, san, say, Int.toNat_natCast])), HX_fr a8 (by (intros; simp (disch := omega) only [stn, sty, san, say, Int.toNat_natCast])) (by (intros; simp (disch := omega) only [stn, sty, san, say, Int.toNat_natCast])) (by (intros; simp (disch := omega) only [stn, sty, san, say, Int.toNat_natCast])), KI_fr a9 (by (intros; simp (disch := omega) only [stn, sty, san, say, Int.toNat_natCast])) (by (intros; simp (disch := omega) only [stn, sty, san, say, Int.toNat_natCast])) (by (intros; simp (disch := omega) only [stn, sty, san, say, Int.toNat_natCast])) (by (intros; simp (disch := omega) only [stn, sty, san, say, Int.toNat_natCast])), ?_, SH_fr a11 (by (intros; simp (disch := omega) only [stn, sty, san, say, Int.toNat_natCast])) (by (intros; simp (disch := omega) only [stn, sty, san, say, Int.toNat_natCast])) (by (intros; simp (disch := omega) only [stn, sty, san, say, Int.toNat_natCast])) (by (intros; simp (disch := omega) only [stn, sty, san, say, Int.toNat_natCast])) (by (intros; simp (disch := omega) only [stn, sty, san, say, Int.toNat_natCast])), TR_fr a12 (by (intros; simp (disch := omega) only [stn, sty, san, say, Int.toNat_natCast])) (by (intros; simp (disch := omega) only [stn, sty, san, say, Int.toNat_natCast])) (by (intros; simp (disch := omega) only [stn, sty, san, say, Int.toNat_natCast])) (by (intros; simp (disch := omega) only [stn, sty, san, say, Int.toNat_natCast])), FG_fr a13 (by (intros; simp (disch := omega) only [stn, sty, san, say, Int.toNat_natCast]))⟩
  intro j hj
  have := a10 j hj
  by_cases e : j = k
  · subst e
    simp (disch := omega) only [stn, sty, this]
  · simp (disch := omega) only [stn, this]
