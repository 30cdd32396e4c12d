section
/-! A FRESH MESSAGE -/
section
variable {N g H T bn bk len : Nat} {s s' : cS} {ct ct' : Nat → List Nat} {hd hd' : List Nat} {a b : Nat}
theorem HP.nw {L : Nat} {y : List Nat} (h : HP g H T s ct hd) (hua : us g H T s hd a = 0) (hK : ∀ b, b ≠ a → (cK s' b = 5 ↔ cK s b = 5)) (hL : ∀ b, b ≠ a → cK s b = 5 → cL s' (b + 2) = cL s (b + 2)) (hLa : cL s' (a + 2) = L) (hL' : L = 128 ∨ L = 1000) (ndA : nd g H ≤ a) (h3 : ∀ b, b ≠ a → cK s b = 5 → cI s' 3 b = cI s 3 b) (h3a : cI s' 3 a = nI 1) (f1 : fre g H T s' (a :: hd) 7 128) (f2 : fre g H T s' (a :: hd) 8 1000) (hc : ∀ b, cnA g H T s' b = cnA g H T s b) (hm : ∀ b, b ≠ a → 1 ≤ us g H T s hd b → hM T s b (ct b) → hM T s' b (ct b)) (hma : hM T s' a y) (hs : smP g H T s') : HP g H T s' (fun b => if b = a then y else ct b) (a :: hd) := by
  obtain ⟨p1, p2, p3, p4, p5⟩ := h
  have u : ∀ b, us g H T s' (a :: hd) b = us g H T s hd b + ind (some a) b := fun b => by
    rw [us_cons]
    unfold us
    rw [hc b]
  have uo : ∀ b, b ≠ a → us g H T s' (a :: hd) b = us g H T s hd b := fun b hb => by
    have z := u b
    rw [ind_o (Ne.symm hb)] at z
    omega
  refine ⟨f1, f2, fun b hb => ?_, fun b hb => ?_, hs⟩
  · by_cases c : b = a
    · subst c
      rw [u, hua, ind_s, hLa, h3a]
      exact ⟨ndA, hL', rfl⟩
    · have kb := (hK b c).1 hb
      obtain ⟨x, y, z⟩ := p3 b kb
      rw [uo b c, hL b c kb, h3 b c kb]
      exact ⟨x, y, z⟩
  · show hM T s' b (if b = a then y else ct b)
    by_cases c : b = a
    · rw [if_pos c, c]
      exact hma
    · rw [if_neg c]
      rw [uo b c] at hb
      exact hm b c hb (p4 b hb)
theorem klen {r : Nat} (h1 : 1 ≤ len) (h2 : len ≤ r) (h3 : r ≤ 1000) : (if nI 0 < (if nI r < nI len then nI r else nI len) then (if nI r < nI len then nI r else nI len) else nI 0) = nI len := by
  rw [if_neg (show ¬ nI r < nI len by rw [n_lt' (by omega) (by omega)]; omega), if_pos (by rw [n_lt' (by omega) (by omega)]; omega)]
/-- the bytes of a row, as they are -/
def rwB (s : cS) (r n : Nat) : List Nat := mkB n (fun i => nb (cA s r i))
theorem rwB_len {r n : Nat} : (rwB s r n).length = n := by
  unfold rwB mkB
  simp
theorem rwB_cB {r n : Nat} (hS : St 0 g H T s) (hk : cK s r = 20) (hn : n ≤ cL s r) (h3 : cL s r ≤ 3000) : cB s r (rwB s r n) := by
  have e : ∀ i, i < n → bg (rwB s r n) i = nb (cA s r i) := fun i hi => by
    unfold rwB
    rw [mkB_in hi]
  refine ⟨by rw [rwB_len]; exact hn, h3, fun i hi => ?_, fun i => ?_⟩
  · rw [rwB_len] at hi
    rw [e i hi]
    exact sb_nb (hS.2.2.2.2.2.2.2.2.2.2 r hk i)
  · by_cases c : i < n
    · rw [e i c]
      exact (nb_spec _).1
    · rw [bg_out (by rw [rwB_len]; omega)]
      decide
/-- what a fresh message is -/
def frP (g H T bn bk len : Nat) (s : cS) (ct : Nat → List Nat) (hd : List Nat) (z : Option Nat × cS) : Prop := ∃ a y, z.1 = some a ∧ St 0 g H T z.2 ∧ us g H T s hd a = 0 ∧ y.length = len ∧ HP g H T z.2 (fun b => if b = a then y else ct b) (a :: hd) ∧ RM g H bn bk z.2 ∧ mfr g H s z.2 ∧ cI z.2 4 a = nI 0 ∧ cI z.2 5 a = nI 0 ∧ (∀ b, cnA g H T z.2 b = cnA g H T s b) ∧ ∀ b, b ≠ a → cK s b = 5 → cI z.2 4 b = cI s 4 b
theorem fresh_old {k L k2 L2 : Nat} (hS : St 0 g H T s) (hS' : St 0 g H T (kfin (csR s k (g + 11) (cR s 6 a)) a (nI len) L)) (h : HP g H T s ct hd) (hr : RM g H bn bk s) (hk : (k = 7 ∧ L = 128 ∧ k2 = 8 ∧ L2 = 1000) ∨ (k = 8 ∧ L = 1000 ∧ k2 = 7 ∧ L2 = 128)) (h1 : 1 ≤ len) (h2 : len ≤ L) (h128 : L = if len ≤ 128 then 128 else 1000) (e : cR s k (g + 11) = some a) : cL s (a + 2) = L ∧ frP g H T bn bk len s ct hd (some a, kfin (csR s k (g + 11) (cR s 6 a)) a (nI len) L) := by
  have fk : fre g H T s hd k L ∧ fre g H T s hd k2 L2 := by
    rcases hk with ⟨rfl, rfl, rfl, rfl⟩ | ⟨rfl, rfl, rfl, rfl⟩
    · exact ⟨h.1, h.2.1⟩
    · exact ⟨h.2.1, h.1⟩
  obtain ⟨⟨l, l1, l2, l3⟩, l', m1, m2, m3⟩ := fk
  have hl : ∃ t, l = a :: t ∧ chn s (cR s 6 a) t := by
    cases l with
    | nil =>
      rw [e] at l1
      exact absurd l1 (by simp [chn])
    | cons x t =>
      have y := l1.1
      rw [e] at y
      cases y
      exact ⟨t, rfl, l1.2⟩
  obtain ⟨t, rfl, lt⟩ := hl
  obtain ⟨ka, La, ua⟩ := (l3 a).1 (by simp)
  have ndA := h.n ka
  have at_ : a ∉ t := (List.nodup_cons.1 l2).1
  have al' : a ∉ l' := fun z => by
    have := ((m3 a).1 z).2.1
    omega
  have p5 := h.2.2.2.2
  refine ⟨La, a, rwB s (a + 2) len, rfl, hS', ua, rwB_len, ?_⟩
  have row := rwB_cB (n := len) hS (hS.ms ka).2.1 (by omega) (by omega)
  have kK : ∀ b, cK (kfin (csR s k (g + 11) (cR s 6 a)) a (nI len) L) b = cK s b := fun _ => rfl
  have lL : ∀ b, cL (kfin (csR s k (g + 11) (cR s 6 a)) a (nI len) L) b = cL s b := fun _ => rfl
  have aA : ∀ b, cA (kfin (csR s k (g + 11) (cR s 6 a)) a (nI len) L) b = cA s b := fun _ => rfl
  have jJ : ∀ b, cJ (kfin (csR s k (g + 11) (cR s 6 a)) a (nI len) L) b = cJ s b := fun _ => rfl
  have pP : ∀ b, cP (kfin (csR s k (g + 11) (cR s 6 a)) a (nI len) L) b = cP s b := fun _ => rfl
  have nN : cn (kfin (csR s k (g + 11) (cR s 6 a)) a (nI len) L) = cn s := rfl
  have nk : ck (kfin (csR s k (g + 11) (cR s 6 a)) a (nI len) L) = ck s := rfl
  have iO : ∀ j b, b ≠ a → cI (kfin (csR s k (g + 11) (cR s 6 a)) a (nI len) L) j b = cI s j b := fun j b hb => by
    unfold kfin
    rw [cI_other _ _ (Or.inr hb), cI_other _ _ (Or.inr hb), cI_other _ _ (Or.inr hb), cI_other _ _ (Or.inr hb)]
    rfl
  have i5 : cI (kfin (csR s k (g + 11) (cR s 6 a)) a (nI len) L) 5 a = nI 0 := by
    unfold kfin
    rw [cI_same]
  have i4 : cI (kfin (csR s k (g + 11) (cR s 6 a)) a (nI len) L) 4 a = nI 0 := by
    unfold kfin
    rw [cI_other _ _ (Or.inl (by decide)), cI_same]
  have i3 : cI (kfin (csR s k (g + 11) (cR s 6 a)) a (nI len) L) 3 a = nI 1 := by
    unfold kfin
    rw [cI_other _ _ (Or.inl (by decide)), cI_other _ _ (Or.inl (by decide)), cI_same]
  have i2 : cI (kfin (csR s k (g + 11) (cR s 6 a)) a (nI len) L) 2 a = nI len := by
    unfold kfin
    rw [cI_other _ _ (Or.inl (by decide)), cI_other _ _ (Or.inl (by decide)), cI_other _ _ (Or.inl (by decide)), cI_same, klen h1 h2 (by omega)]
  have rr : ∀ j b, cR (kfin (csR s k (g + 11) (cR s 6 a)) a (nI len) L) j b = cR (csR (csR s k (g + 11) (cR s 6 a)) 6 a none) j b := fun _ _ => rfl
  have rO : ∀ j b, (j ≠ 6 ∨ b ≠ a) → (j ≠ k ∨ b ≠ g + 11) → cR (kfin (csR s k (g + 11) (cR s 6 a)) a (nI len) L) j b = cR s j b := fun j b x y => by
    rw [rr, cR_ne _ _ x, cR_ne _ _ y]
  have rk : cR (kfin (csR s k (g + 11) (cR s 6 a)) a (nI len) L) k (g + 11) = cR s 6 a := by
    rw [rr, cR_ne _ _ (Or.inl (by omega)), cR_at]
  generalize kfin (csR s k (g + 11) (cR s 6 a)) a (nI len) L = s1 at hS' kK lL aA jJ pP nN nk iO i5 i4 i3 i2 rO rk ⊢
  have qn : g + 11 < nd g H := by unfold nd; omega
  have hc : ∀ b, cnA g H T s1 b = cnA g H T s b := fun b => cnA_fr (pP _) (fun _ _ _ _ => pP _) (fun n j _ hj => rO j _ (Or.inl (by omega)) (Or.inl (by omega)))
  have u : ∀ b, us g H T s1 (a :: hd) b = us g H T s hd b + ind (some a) b := fun b => by
    rw [us_cons]
    unfold us
    rw [hc b]
  have uo : ∀ b, b ≠ a → us g H T s1 (a :: hd) b = us g H T s hd b := fun b hb => by
    have z := u b
    rw [ind_o (Ne.symm hb)] at z
    omega
  have fa : fre g H T s1 (a :: hd) k L := by
    refine ⟨t, ?_, (List.nodup_cons.1 l2).2, fun b => ?_⟩
    · rw [rk]
      exact chn_fr lt (fun b hb => rO 6 b (Or.inr (fun z => at_ (by rw [← z]; exact hb))) (Or.inl (by omega)))
    · rw [kK, lL]
      by_cases c : b = a
      · subst c
        rw [u]
        constructor
        · intro z
          exact absurd z at_
        · rintro ⟨_, _, z⟩
          rw [ind_s] at z
          omega
      · have z := l3 b
        rw [List.mem_cons] at z
        rw [uo b c]
        constructor
        · intro y
          exact z.1 (Or.inr y)
        · intro y
          exact (z.2 y).resolve_left c
  have fb : fre g H T s1 (a :: hd) k2 L2 := by
    refine ⟨l', ?_, m2, fun b => ?_⟩
    · rw [rO k2 _ (Or.inl (by omega)) (Or.inl (by omega))]
      exact chn_fr m1 (fun b hb => rO 6 b (Or.inr (fun z => al' (by rw [← z]; exact hb))) (Or.inl (by omega)))
    · rw [kK, lL]
      by_cases c : b = a
      · subst c
        constructor
        · intro z
          exact absurd z al'
        · rintro ⟨_, z, _⟩
          omega
      · rw [uo b c]
        exact m3 b
  have f12 : fre g H T s1 (a :: hd) 7 128 ∧ fre g H T s1 (a :: hd) 8 1000 := by
    rcases hk with ⟨rfl, rfl, rfl, rfl⟩ | ⟨rfl, rfl, rfl, rfl⟩
    · exact ⟨fa, fb⟩
    · exact ⟨fb, fa⟩
  have hs : smP g H T s1 := by
    have na : ∀ b, 1 ≤ cnA g H T s b → b ≠ a := fun b hb z => by
      rw [z] at hb
      unfold us at ua
      omega
    refine ⟨fun n e i b x1 x2 x3 x4 => ?_, fun n j b x1 x2 x3 => ?_⟩
    · rw [pP] at x4
      rw [lL, iO 4 b (na b (cnA_hr x1 x2 x3 x4))]
      exact p5.1 n e i b x1 x2 x3 x4
    · rw [rO j _ (Or.inl (by omega)) (Or.inl (by omega))] at x3
      rw [iO 4 b (na b (cnA_hf x1 x2 x3))]
      exact p5.2 n j b x1 x2 x3
  refine ⟨h.nw (L := L) ua (fun b _ => by rw [kK]) (fun b _ _ => lL _) (by rw [lL]; exact La) (by omega) ndA (fun b c _ => iO 3 b c) i3 f12.1 f12.2 hc (fun b c _ hm => hm.fr (kK _) (lL _) (iO 2 b c) (iO 4 b c) (iO 5 b c) (jJ _) (aA _)) ⟨⟨by rw [kK]; exact ka, by rw [i2, rwB_len], ⟨by rw [lL]; exact row.1, by rw [lL]; exact row.2.1, by rw [aA]; exact row.2.2.1, row.2.2.2⟩, by rw [rwB_len]; omega, by rw [lL, La, rwB_len]; exact h128, by rw [rwB_len]; exact h1⟩, Or.inl ⟨i4, i5⟩⟩ hs, ?_, ?_, i4, i5, hc, fun b hb _ => iO 4 b hb⟩
  · obtain ⟨r1, r2, r3, r4⟩ := hr
    have e1 : ∀ L, nM s1 L = nM s L := fun L => by
      unfold nM
      rw [nN]
      exact sm_eq (fun b _ => by rw [kK, lL])
    have e2 : nSe g H s1 = nSe g H s := by
      unfold nSe
      exact sm_eq (fun n _ => by rw [pP])
    unfold RM
    rw [e1, e1, e2, nN, nk]
    exact ⟨r1, r2, r3, r4⟩
  · exact ⟨by rw [nN]; exact Nat.le_refl _, fun b _ => ⟨kK b, lL b⟩, fun j b hb => iO j b (by omega), fun j b hb hj => rO j b (Or.inr (by omega)) (by omega), fun b _ => ⟨aA b, jJ b, pP b⟩, fun r _ _ _ _ => aA r⟩
theorem fresh_nu {k L k2 L2 : Nat} (hS : St 0 g H T s) (hS' : St 0 g H T (kfin (csMsg s L) (cn s) (nI len) L)) (h : HP g H T s ct hd) (hr : RM g H bn bk s) (hN : nd g H ≤ cn s) (hH : H ≤ 13) (hT : T ≤ 13) (hl : hd.length ≤ 30) (hk : (k = 7 ∧ L = 128 ∧ k2 = 8 ∧ L2 = 1000) ∨ (k = 8 ∧ L = 1000 ∧ k2 = 7 ∧ L2 = 128)) (h1 : 1 ≤ len) (h2 : len ≤ L) (h128 : L = if len ≤ 128 then 128 else 1000) (e : cR s k (g + 11) = none) : frP g H T bn bk len s ct hd (some (cn s), kfin (csMsg s L) (cn s) (nI len) L) := by
  have fk : fre g H T s hd k L ∧ fre g H T s hd k2 L2 := by
    rcases hk with ⟨rfl, rfl, rfl, rfl⟩ | ⟨rfl, rfl, rfl, rfl⟩
    · exact ⟨h.1, h.2.1⟩
    · exact ⟨h.2.1, h.1⟩
  obtain ⟨⟨l, l1, l2, l3⟩, l', m1, m2, m3⟩ := fk
  have hl0 : l = [] := by
    cases l with
    | nil => rfl
    | cons x t =>
      have y := l1.1
      rw [e] at y
      cases y
  subst hl0
  have p5 := h.2.2.2.2
  have k0 : ∀ b, cn s ≤ b → cK s b = 0 := hS.2.2.2.2.2.2.2.2.2.1
  have ua : us g H T s hd (cn s) = 0 := by
    by_cases c : us g H T s hd (cn s) = 0
    · exact c
    · have := h.k (a := cn s) (by omega)
      rw [k0 _ (Nat.le_refl _)] at this
      exact absurd this (by decide)
  have few : nM s L < if L = 128 then 12900 else 1700 := by
    have us1 : ∀ b, cK s b = 5 → cL s (b + 2) = L → 1 ≤ us g H T s hd b := fun b x y => by
      by_cases c : us g H T s hd b = 0
      · exact absurd ((l3 b).2 ⟨x, y, c⟩) (by simp)
      · omega
    rcases hk with ⟨rfl, rfl, rfl, rfl⟩ | ⟨rfl, rfl, rfl, rfl⟩
    · rw [if_pos rfl]
      exact few_128 hH hT (by omega) us1
    · rw [if_neg (by decide)]
      exact few_1000 hH hT (by omega) p5 us1
  refine ⟨cn s, rwB (csMsg s L) (cn s + 2) len, rfl, hS', ua, rwB_len, ?_⟩
  have sM := hS.msg L
  have row := rwB_cB (n := len) sM (r := cn s + 2) (by rw [msg_K, if_pos rfl]) (by rw [msg_L, if_pos rfl]; exact h2) (by rw [msg_L, if_pos rfl]; omega)
  have kK : ∀ b, cK (kfin (csMsg s L) (cn s) (nI len) L) b = if b = cn s + 2 then 20 else if b = cn s + 1 then 22 else if b = cn s then 5 else cK s b := fun _ => rfl
  have lL : ∀ b, cL (kfin (csMsg s L) (cn s) (nI len) L) b = if b = cn s + 2 then L else if b = cn s + 1 then 4 else if b = cn s then 7 else cL s b := fun _ => rfl
  have aA : ∀ b, cA (kfin (csMsg s L) (cn s) (nI len) L) b = cA (csMsg s L) b := fun _ => rfl
  have aO : ∀ b, b < cn s → cA (kfin (csMsg s L) (cn s) (nI len) L) b = cA s b := fun b hb => by
    show up1 (up1 (up1 (cA s) (cn s) (fun _ => 0)) (cn s + 1) (fun _ => 0)) (cn s + 2) (fun _ => 0) b = cA s b
    unfold up1
    rw [if_neg (by omega), if_neg (by omega), if_neg (by omega)]
  have jO : ∀ b, b < cn s → cJ (kfin (csMsg s L) (cn s) (nI len) L) b = cJ s b := fun b hb => by
    show up1 (up1 (up1 (cJ s) (cn s) (fun _ => 0)) (cn s + 1) (fun _ => 0)) (cn s + 2) (fun _ => 0) b = cJ s b
    unfold up1
    rw [if_neg (by omega), if_neg (by omega), if_neg (by omega)]
  have pO : ∀ b, b < cn s → cP (kfin (csMsg s L) (cn s) (nI len) L) b = cP s b := fun b hb => by
    show cP (csMsg s L) b = _
    rw [msg_P, if_neg (by omega), if_neg (by omega), if_neg (by omega)]
  have nN : cn (kfin (csMsg s L) (cn s) (nI len) L) = cn s + 3 := rfl
  have nk : ck (kfin (csMsg s L) (cn s) (nI len) L) = ck s + 7 + 4 + L := rfl
  have iM : ∀ j b, b < cn s → cI (csMsg s L) j b = cI s j b := fun j b hb => by
    show up1 (up1 (up1 (cI s j) (cn s) 0) (cn s + 1) 0) (cn s + 2) 0 b = cI s j b
    unfold up1
    rw [if_neg (by omega), if_neg (by omega), if_neg (by omega)]
  have iO : ∀ j b, b < cn s → cI (kfin (csMsg s L) (cn s) (nI len) L) j b = cI s j b := fun j b hb => by
    unfold kfin
    rw [cI_other _ _ (Or.inr (by omega)), cI_other _ _ (Or.inr (by omega)), cI_other _ _ (Or.inr (by omega)), cI_other _ _ (Or.inr (by omega))]
    exact iM j b hb
  have i5 : cI (kfin (csMsg s L) (cn s) (nI len) L) 5 (cn s) = nI 0 := by
    unfold kfin
    rw [cI_same]
  have i4 : cI (kfin (csMsg s L) (cn s) (nI len) L) 4 (cn s) = nI 0 := by
    unfold kfin
    rw [cI_other _ _ (Or.inl (by decide)), cI_same]
  have i3 : cI (kfin (csMsg s L) (cn s) (nI len) L) 3 (cn s) = nI 1 := by
    unfold kfin
    rw [cI_other _ _ (Or.inl (by decide)), cI_other _ _ (Or.inl (by decide)), cI_same]
  have i2 : cI (kfin (csMsg s L) (cn s) (nI len) L) 2 (cn s) = nI len := by
    unfold kfin
    rw [cI_other _ _ (Or.inl (by decide)), cI_other _ _ (Or.inl (by decide)), cI_other _ _ (Or.inl (by decide)), cI_same, klen h1 h2 (by omega)]
  have rO : ∀ j b, b < cn s → cR (kfin (csMsg s L) (cn s) (nI len) L) j b = cR s j b := fun j b hb => by
    show cR (csR (csMsg s L) 6 (cn s) none) j b = _
    rw [cR_ne _ _ (Or.inr (by omega)), msg_R _ _ _ _ hb]
  generalize kfin (csMsg s L) (cn s) (nI len) L = s1 at hS' kK lL aA aO jO pO nN nk iO i5 i4 i3 i2 rO ⊢
  have qn : g + 11 < nd g H := by unfold nd; omega
  have nl : ∀ n, n < H → nd g n + 23 < cn s := fun n hn => by unfold nd at *; omega
  have hc : ∀ b, cnA g H T s1 b = cnA g H T s b := fun b => cnA_fr (pO _ (by unfold nd at hN; omega)) (fun n e hn _ => pO _ (by have := plO_b e; have := nl n hn; omega)) (fun n j hn hj => rO j _ (by have := nl n hn; omega))
  have u : ∀ b, us g H T s1 (cn s :: hd) b = us g H T s hd b + ind (some (cn s)) b := fun b => by
    rw [us_cons]
    unfold us
    rw [hc b]
  have uo : ∀ b, b ≠ cn s → us g H T s1 (cn s :: hd) b = us g H T s hd b := fun b hb => by
    have z := u b
    rw [ind_o (Ne.symm hb)] at z
    omega
  have k5 : ∀ b, cK s b = 5 → b + 2 < cn s := fun b hb => (hS.ms hb).2.2.2
  have kB : ∀ b, b ≠ cn s → (cK s1 b = 5 ↔ cK s b = 5) := fun b hb => by
    rw [kK]
    by_cases c : b < cn s
    · rw [if_neg (by omega), if_neg (by omega), if_neg (by omega)]
    · rw [k0 b (by omega)]
      by_cases c2 : b = cn s + 2
      · rw [if_pos c2]
        decide
      · by_cases c1 : b = cn s + 1
        · rw [if_neg c2, if_pos c1]
          decide
        · rw [if_neg c2, if_neg c1, if_neg hb]
  have lB : ∀ b, cK s b = 5 → cL s1 (b + 2) = cL s (b + 2) := fun b hb => by
    have := k5 b hb
    rw [lL, if_neg (by omega), if_neg (by omega), if_neg (by omega)]
  have fa : fre g H T s1 (cn s :: hd) k L := by
    refine ⟨[], ?_, List.nodup_nil, fun b => ?_⟩
    · show cR s1 k (g + 11) = none
      rw [rO k _ (by omega)]
      exact e
    · constructor
      · intro z
        exact absurd z (by simp)
      · rintro ⟨x, y, z⟩
        rw [u] at z
        by_cases c : b = cn s
        · rw [c, ind_s] at z
          omega
        · have kb := (kB b c).1 x
          rw [lB b kb] at y
          exact (l3 b).2 ⟨kb, y, by omega⟩
  have fb : fre g H T s1 (cn s :: hd) k2 L2 := by
    refine ⟨l', ?_, m2, fun b => ?_⟩
    · rw [rO k2 _ (by omega)]
      exact chn_fr m1 (fun b hb => rO 6 b (by have := k5 b ((m3 b).1 hb).1; omega))
    · rw [m3 b]
      by_cases c : b = cn s
      · rw [c, u, ind_s]
        constructor
        · rintro ⟨x, _, _⟩
          rw [k0 _ (Nat.le_refl _)] at x
          exact absurd x (by decide)
        · rintro ⟨_, _, z⟩
          omega
      · rw [kB b c, uo b c]
        constructor
        · rintro ⟨x, y, z⟩
          exact ⟨x, by rw [lB b x]; exact y, z⟩
        · rintro ⟨x, y, z⟩
          exact ⟨x, by rw [← lB b x]; exact y, z⟩
  have f12 : fre g H T s1 (cn s :: hd) 7 128 ∧ fre g H T s1 (cn s :: hd) 8 1000 := by
    rcases hk with ⟨rfl, rfl, rfl, rfl⟩ | ⟨rfl, rfl, rfl, rfl⟩
    · exact ⟨fa, fb⟩
    · exact ⟨fb, fa⟩
  have hs : smP g H T s1 := by
    have na : ∀ b, 1 ≤ cnA g H T s b → cK s b = 5 := fun b hb => h.k (by unfold us; omega)
    refine ⟨fun n e i b x1 x2 x3 x4 => ?_, fun n j b x1 x2 x3 => ?_⟩
    · rw [pO _ (by have := plO_b e; have := nl n x1; omega)] at x4
      have kb := na b (cnA_hr x1 x2 x3 x4)
      rw [lB b kb, iO 4 b (by have := k5 b kb; omega)]
      exact p5.1 n e i b x1 x2 x3 x4
    · rw [rO j _ (by have := nl n x1; omega)] at x3
      have kb := na b (cnA_hf x1 x2 x3)
      rw [iO 4 b (by have := k5 b kb; omega)]
      exact p5.2 n j b x1 x2 x3
  have La : cL s1 (cn s + 2) = L := by rw [lL, if_pos rfl]
  have Ka : cK s1 (cn s) = 5 := by rw [kK, if_neg (by omega), if_neg (by omega), if_pos rfl]
  have row1 : cA s1 (cn s + 2) = cA (csMsg s L) (cn s + 2) := aA _
  have rowL : cL (csMsg s L) (cn s + 2) = L := by rw [msg_L, if_pos rfl]
  refine ⟨h.nw (L := L) ua kB (fun b _ hb => lB b hb) La (by omega) hN (fun b _ hb => iO 3 b (by have := k5 b hb; omega)) i3 f12.1 f12.2 hc (fun b _ hb hm => by
    have kb := k5 b hm.1.1
    exact hm.fr (by rw [kK, if_neg (by omega), if_neg (by omega), if_neg (by omega)]) (lB b hm.1.1) (iO 2 b (by omega)) (iO 4 b (by omega)) (iO 5 b (by omega)) (jO _ (by omega)) (aO _ (by omega))) ⟨⟨Ka, by rw [i2, rwB_len], ⟨by rw [La, ← rowL]; exact row.1, by rw [La]; omega, by rw [row1]; exact row.2.2.1, row.2.2.2⟩, by rw [rwB_len]; omega, by rw [La, rwB_len]; exact h128, by rw [rwB_len]; exact h1⟩, Or.inl ⟨i4, i5⟩⟩ hs, ?_, ?_, i4, i5, hc, fun b _ kb => iO 4 b (by have := k5 b kb; omega)⟩
  · obtain ⟨r1, r2, r3, r4⟩ := hr
    have e1 : ∀ L', nM s1 L' = nM s L' + (if L = L' then 1 else 0) := fun L' => by
      unfold nM
      rw [nN]
      show smN _ (cn s) + _ + _ + _ = _
      rw [sm_eq (f := fun a => if cK s a = 5 ∧ cL s (a + 2) = L' then 1 else 0) (f' := fun a => if cK s1 a = 5 ∧ cL s1 (a + 2) = L' then 1 else 0) (fun b hb => by
        show (if cK s1 b = 5 ∧ cL s1 (b + 2) = L' then 1 else 0) = if cK s b = 5 ∧ cL s (b + 2) = L' then 1 else 0
        by_cases c : cK s b = 5
        · have kb' : cK s1 b = cK s b := by rw [kK, if_neg (by omega), if_neg (by omega), if_neg (by omega)]
          rw [lB b c, kb']
        · rw [if_neg (fun z => c ((kB b (by omega)).1 z.1)), if_neg (fun z => c z.1)])]
      have t2 : (if cK s1 (cn s + 2) = 5 ∧ cL s1 (cn s + 2 + 2) = L' then 1 else 0) = 0 := if_neg (fun z => by
        have := z.1
        rw [kK, if_pos rfl] at this
        exact absurd this (by decide))
      have t1 : (if cK s1 (cn s + 1) = 5 ∧ cL s1 (cn s + 1 + 2) = L' then 1 else 0) = 0 := if_neg (fun z => by
        have := z.1
        rw [kK, if_neg (by omega), if_pos rfl] at this
        exact absurd this (by decide))
      show smN (fun a => if cK s a = 5 ∧ cL s (a + 2) = L' then 1 else 0) (cn s) + (if cK s1 (cn s) = 5 ∧ cL s1 (cn s + 2) = L' then 1 else 0) + (if cK s1 (cn s + 1) = 5 ∧ cL s1 (cn s + 1 + 2) = L' then 1 else 0) + (if cK s1 (cn s + 2) = 5 ∧ cL s1 (cn s + 2 + 2) = L' then 1 else 0) = _
      rw [t1, t2, Ka, La]
      by_cases c : L = L'
      · rw [if_pos ⟨rfl, c⟩, if_pos c]
      · rw [if_neg (fun z => c z.2), if_neg c]
    have e2 : nSe g H s1 = nSe g H s := by
      unfold nSe
      exact sm_eq (fun n hn => by rw [pO _ (by have := nl n hn; omega)])
    unfold RM
    rw [e1, e1, e2, nN, nk]
    rcases hk with ⟨rfl, rfl, rfl, rfl⟩ | ⟨rfl, rfl, rfl, rfl⟩
    · rw [if_pos rfl] at few
      rw [if_pos rfl, if_neg (by decide)]
      omega
    · rw [if_neg (by decide)] at few
      rw [if_neg (by decide), if_pos rfl]
      omega
  · exact ⟨by rw [nN]; omega, fun b hb => ⟨by rw [kK, if_neg (by omega), if_neg (by omega), if_neg (by omega)], by rw [lL, if_neg (by omega), if_neg (by omega), if_neg (by omega)]⟩, fun j b hb => iO j b (by omega), fun j b hb _ => rO j b (by omega), fun b hb => ⟨aO b (by omega), jO b (by omega), pO b (by omega)⟩, fun r _ hr _ _ => aO r hr⟩
theorem fresh_ok (hS : St 0 g H T s) (h : HP g H T s ct hd) (hr : RM g H bn bk s) (hN : nd g H ≤ cn s) (hH : H ≤ 13) (hT : T ≤ 13) (hl : hd.length ≤ 30) (h1 : 1 ≤ len) (h2 : len ≤ 1000) : wp (p_X9_fresh N g H T s (g + 11) (nI len)) (k_X9_fresh N g H T s (g + 11) (nI len)) (frP g H T bn bk len s ct hd) := by
  refine wp_fin trivial ?_
  have fs := (fresh_all (N := N) (x1 := nI len) hS (show isO g H 7 (g + 11) from Or.inr (Or.inr (Or.inr (Or.inr (Or.inr (Or.inr (Or.inl ⟨rfl, rfl⟩)))))))).2.2.1
  revert fs
  unfold k_X9_fresh
  by_cases c : nI 128 < nI len
  · rw [if_pos c]
    rw [n_lt' (by omega) (by omega)] at c
    cases e : cR s 8 (g + 11) with
    | none =>
      rw [if_pos rfl]
      intro fs
      exact fresh_nu (k := 8) (L := 1000) (k2 := 7) (L2 := 128) hS fs h hr hN hH hT hl (Or.inr ⟨rfl, rfl, rfl, rfl⟩) h1 h2 (by rw [if_neg (by omega)]) e
    | some a =>
      rw [if_neg someN]
      show St 0 g H T (kfin (csR s 8 (g + 11) (cR s 6 a)) a (nI len) (cL s (a + 2))) → frP g H T bn bk len s ct hd (some a, kfin (csR s 8 (g + 11) (cR s 6 a)) a (nI len) (cL s (a + 2)))
      have La : cL s (a + 2) = 1000 := by
        obtain ⟨l, l1, l2, l3⟩ := h.2.1
        cases l with
        | nil =>
          rw [e] at l1
          exact absurd l1 (by simp [chn])
        | cons x t =>
          have y := l1.1
          rw [e] at y
          cases y
          exact ((l3 a).1 (by simp)).2.1
      rw [La]
      intro fs
      exact (fresh_old (k := 8) (L := 1000) (k2 := 7) (L2 := 128) hS fs h hr (Or.inr ⟨rfl, rfl, rfl, rfl⟩) h1 h2 (by rw [if_neg (by omega)]) e).2
  · rw [if_neg c]
    rw [n_lt' (by omega) (by omega)] at c
    cases e : cR s 7 (g + 11) with
    | none =>
      rw [if_pos rfl]
      intro fs
      exact fresh_nu (k := 7) (L := 128) (k2 := 8) (L2 := 1000) hS fs h hr hN hH hT hl (Or.inl ⟨rfl, rfl, rfl, rfl⟩) h1 (by omega) (by rw [if_pos (by omega)]) e
    | some a =>
      rw [if_neg someN]
      show St 0 g H T (kfin (csR s 7 (g + 11) (cR s 6 a)) a (nI len) (cL s (a + 2))) → frP g H T bn bk len s ct hd (some a, kfin (csR s 7 (g + 11) (cR s 6 a)) a (nI len) (cL s (a + 2)))
      have La : cL s (a + 2) = 128 := by
        obtain ⟨l, l1, l2, l3⟩ := h.1
        cases l with
        | nil =>
          rw [e] at l1
          exact absurd l1 (by simp [chn])
        | cons x t =>
          have y := l1.1
          rw [e] at y
          cases y
          exact ((l3 a).1 (by simp)).2.1
      rw [La]
      intro fs
      exact (fresh_old (k := 7) (L := 128) (k2 := 8) (L2 := 1000) hS fs h hr (Or.inl ⟨rfl, rfl, rfl, rfl⟩) h1 (by omega) (by rw [if_pos (by omega)]) e).2
end
end
