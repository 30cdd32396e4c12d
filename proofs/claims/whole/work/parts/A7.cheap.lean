section
/-! THE CLASS'S HEAP: messages, who uses them, and the rows that are free -/
def hM (T : Nat) (s : cS) (a : Nat) (y : List Nat) : Prop := mS s a y ∧ mF T s a y
/-- how many use a: places, and hands -/
def us (g H T : Nat) (s : cS) (hd : List Nat) (a : Nat) : Nat := cnA g H T s a + hd.count a
def chn (s : cS) : Option Nat → List Nat → Prop
  | x, [] => x = none
  | x, a :: l => x = some a ∧ chn s (cR s 6 a) l
def fre (g H T : Nat) (s : cS) (hd : List Nat) (k L : Nat) : Prop := ∃ l, chn s (cR s k (g + 11)) l ∧ l.Nodup ∧ ∀ a, a ∈ l ↔ (cK s a = 5 ∧ cL s (a + 2) = L ∧ us g H T s hd a = 0)
/-- what is held as votes, snapshots, proofs is small; what is held of the rules' is looked at -/
def smP (g H T : Nat) (s : cS) : Prop := (∀ n e i a, n < H → e < 6 → i < plN T e → cP s (nd g n + plO e) i = some a → ((e = 1 ∨ e = 3 ∨ e = 4) → cL s (a + 2) = 128) ∧ (e ≤ 2 → cI s 4 a = nI 1)) ∧ ∀ n k a, n < H → k = 14 ∨ k = 15 → cR s k (nd g n) = some a → cI s 4 a = nI 1
def HP (g H T : Nat) (s : cS) (ct : Nat → List Nat) (hd : List Nat) : Prop := fre g H T s hd 7 128 ∧ fre g H T s hd 8 1000 ∧ (∀ a, cK s a = 5 → nd g H ≤ a ∧ (cL s (a + 2) = 128 ∨ cL s (a + 2) = 1000) ∧ cI s 3 a = nI (us g H T s hd a)) ∧ (∀ a, 1 ≤ us g H T s hd a → hM T s a (ct a)) ∧ smP g H T s
section
variable {g H T : Nat} {s s' : cS} {ct ct' : Nat → List Nat} {hd hd' : List Nat} {a b : Nat}
theorem us_cons : us g H T s (a :: hd) b = us g H T s hd b + ind (some a) b := by
  unfold us ind
  rw [List.count_cons]
  by_cases c : a = b
  · rw [if_pos (by simpa using c), if_pos (by simpa using c)]
    omega
  · rw [if_neg (by simpa using c), if_neg (by simpa using c)]
    omega
theorem us_self : 1 ≤ us g H T s (a :: hd) a := by
  rw [us_cons, ind_s]
  omega
theorem chn_fr {x : Option Nat} {l : List Nat} (h : chn s x l) (hr : ∀ a, a ∈ l → cR s' 6 a = cR s 6 a) : chn s' x l := by
  induction l generalizing x with
  | nil => exact h
  | cons a l ih =>
    refine ⟨h.1, ?_⟩
    rw [hr a (by simp)]
    exact ih h.2 (fun b hb => hr b (by simp [hb]))
theorem fre_fr {k L : Nat} (h : fre g H T s hd k L) (hK : ∀ a, cK s' a = 5 ↔ cK s a = 5) (hL : ∀ a, cK s a = 5 → cL s' (a + 2) = cL s (a + 2)) (h6 : ∀ a, cK s a = 5 → cR s' 6 a = cR s 6 a) (hk : cR s' k (g + 11) = cR s k (g + 11)) (hu : ∀ b, us g H T s' hd' b = 0 ↔ us g H T s hd b = 0) : fre g H T s' hd' k L := by
  obtain ⟨l, l1, l2, l3⟩ := h
  refine ⟨l, ?_, l2, fun a => ?_⟩
  · rw [hk]
    exact chn_fr l1 (fun a ha => h6 a ((l3 a).1 ha).1)
  · rw [l3 a, hu a, hK a]
    constructor
    · rintro ⟨x, y, z⟩
      exact ⟨x, by rw [hL a x]; exact y, z⟩
    · rintro ⟨x, y, z⟩
      exact ⟨x, by rw [← hL a x]; exact y, z⟩
theorem HP.fr (h : HP g H T s ct hd) (hK : ∀ a, cK s' a = 5 ↔ cK s a = 5) (hL : ∀ a, cK s a = 5 → cL s' (a + 2) = cL s (a + 2)) (h3 : ∀ a, cK s a = 5 → cI s' 3 a = cI s 3 a) (h6 : ∀ a, cK s a = 5 → cR s' 6 a = cR s 6 a) (h7 : ∀ k, k = 7 ∨ k = 8 → cR s' k (g + 11) = cR s k (g + 11)) (hu : ∀ b, us g H T s' hd' b = us g H T s hd b) (hm : ∀ b, 1 ≤ us g H T s hd b → hM T s b (ct b) → hM T s' b (ct' b)) (hs : smP g H T s') : HP g H T s' ct' hd' := by
  obtain ⟨p1, p2, p3, p4, p5⟩ := h
  refine ⟨fre_fr p1 hK hL h6 (h7 7 (Or.inl rfl)) (fun b => by rw [hu b]), fre_fr p2 hK hL h6 (h7 8 (Or.inr rfl)) (fun b => by rw [hu b]), fun a ha => ?_, fun a ha => ?_, hs⟩
  · have ha' := (hK a).1 ha
    obtain ⟨x, y, z⟩ := p3 a ha'
    rw [hL a ha', h3 a ha', hu a]
    exact ⟨x, y, z⟩
  · rw [hu a] at ha
    exact hm a ha (p4 a ha)
theorem hM.fr {y : List Nat} (h : hM T s a y) (eK : cK s' a = cK s a) (eL : cL s' (a + 2) = cL s (a + 2)) (e2 : cI s' 2 a = cI s 2 a) (e4 : cI s' 4 a = cI s 4 a) (e5 : cI s' 5 a = cI s 5 a) (eJ : cJ s' (a + 1) = cJ s (a + 1)) (eA : cA s' (a + 2) = cA s (a + 2)) : hM T s' a y := by
  obtain ⟨⟨m1, m2, m3, m4, m5, m6⟩, f⟩ := h
  refine ⟨⟨by rw [eK]; exact m1, by rw [e2]; exact m2, ⟨by rw [eL]; exact m3.1, by rw [eL]; exact m3.2.1, by rw [eA]; exact m3.2.2.1, m3.2.2.2⟩, m4, by rw [eL]; exact m5, m6⟩, ?_⟩
  have n : ∀ o, nmC s a o → nmC s' a o := fun o ho => by
    cases o with
    | none =>
      show cI s' 5 a = nI 0
      rw [e5]
      exact ho
    | some d =>
      show cI s' 5 a = nI 1 ∧ ∀ k, k < 32 → lby (cJ s' (a + 1)) k = nI (bg d k)
      rw [e5, eJ]
      exact ho
  unfold mF
  rw [e4, e5]
  rcases f with f | f | f
  · exact Or.inl f
  · exact Or.inr (Or.inl ⟨f.1, f.2.1, n _ f.2.2⟩)
  · exact Or.inr (Or.inr f)
theorem HP.m (h : HP g H T s ct hd) (ha : 1 ≤ us g H T s hd a) : hM T s a (ct a) := h.2.2.2.1 a ha
theorem HP.k (h : HP g H T s ct hd) (ha : 1 ≤ us g H T s hd a) : cK s a = 5 := (h.m ha).1.1
theorem HP.u (h : HP g H T s ct hd) (ha : cK s a = 5) : cI s 3 a = nI (us g H T s hd a) := (h.2.2.1 a ha).2.2
theorem HP.n (h : HP g H T s ct hd) (ha : cK s a = 5) : nd g H ≤ a := (h.2.2.1 a ha).1
theorem smP.I {k : Nat} {v : Int32} (h : smP g H T s) (hk : k ≠ 4) : smP g H T (csI s k a v) := by
  refine ⟨fun n e i b h1 h2 h3 h4 => ?_, fun n j b h1 h2 h3 => ?_⟩
  · rw [cI_other _ _ (Or.inl (fun z => hk z.symm))]
    exact h.1 n e i b h1 h2 h3 h4
  · rw [cI_other _ _ (Or.inl (fun z => hk z.symm))]
    exact h.2 n j b h1 h2 h3
/-- one more hand takes a message that is in use -/
theorem HP.up (h : HP g H T s ct hd) (ha : 1 ≤ us g H T s hd a) : HP g H T (csI s 3 a (cI s 3 a + nI 1)) ct (a :: hd) := by
  have k5 := h.k ha
  have u3 := h.u k5
  obtain ⟨p1, p2, p3, p4, p5⟩ := h
  have u : ∀ b, us g H T (csI s 3 a (cI s 3 a + nI 1)) (a :: hd) b = us g H T s hd b + ind (some a) b := fun b => us_cons (s := csI s 3 a (cI s 3 a + nI 1))
  have z : ∀ b, us g H T (csI s 3 a (cI s 3 a + nI 1)) (a :: hd) b = 0 ↔ us g H T s hd b = 0 := fun b => by
    rw [u b]
    by_cases c : a = b
    · subst c
      rw [ind_s]
      omega
    · rw [ind_o c]
      omega
  refine ⟨fre_fr p1 (fun _ => Iff.rfl) (fun _ _ => rfl) (fun _ _ => rfl) rfl z, fre_fr p2 (fun _ => Iff.rfl) (fun _ _ => rfl) (fun _ _ => rfl) rfl z, fun b hb => ?_, fun b hb => ?_, p5.I (by decide)⟩
  · obtain ⟨x, y, v⟩ := p3 b hb
    refine ⟨x, y, ?_⟩
    rw [u b]
    by_cases c : a = b
    · subst c
      rw [cI_same, v, n_add, ind_s]
    · rw [cI_other _ _ (Or.inr (Ne.symm c)), v, ind_o c, Nat.add_zero]
  · have hb' : 1 ≤ us g H T s hd b := by
      have := z b
      omega
    exact (p4 b hb').fr rfl rfl (cI_other _ _ (Or.inl (by decide))) (cI_other _ _ (Or.inl (by decide))) (cI_other _ _ (Or.inl (by decide))) rfl rfl
theorem frF_k (s : cS) (a : Nat) : frF s a = 7 ∨ frF s a = 8 := by
  unfold frF
  split <;> simp
theorem smP.R {k b : Nat} {v : Option Nat} (h : smP g H T s) (hk : (k ≠ 14 ∧ k ≠ 15) ∨ ∀ n, n < H → b ≠ nd g n) : smP g H T (csR s k b v) := by
  refine ⟨h.1, fun n j c h1 h2 h3 => ?_⟩
  rw [cR_ne _ _ (by
    rcases hk with hk | hk
    · exact Or.inl (by omega)
    · exact Or.inr (fun z => hk n h1 z.symm))] at h3
  exact h.2 n j c h1 h2 h3
/-- a hand lets a message go -/
theorem HP.dr {u : Nat} (h : HP g H T s ct (a :: hd)) (hu : u = us g H T s (a :: hd) a) : HP g H T (cDrp s (g + 11) a u) ct hd := by
  have h1 : 1 ≤ us g H T s (a :: hd) a := us_self
  have k5 := h.k h1
  have ndA := h.n k5
  have aq : a ≠ g + 11 := by
    unfold nd at ndA
    omega
  have anN : ∀ n, n < H → a ≠ nd g n := fun n hn => by
    unfold nd at *
    omega
  obtain ⟨p1, p2, p3, p4, p5⟩ := h
  unfold cDrp
  have uc : ∀ b, us g H T s (a :: hd) b = us g H T s hd b + ind (some a) b := fun b => us_cons
  by_cases c : u = 1
  · rw [if_pos c]
    have u0 : us g H T s hd a = 0 := by
      have := uc a
      rw [ind_s] at this
      omega
    have fk := frF_k s a
    have cn' : ∀ b, us g H T (csR (csR (csI s 3 a (nI 0)) 6 a (cR s (frF s a) (g + 11))) (frF s a) (g + 11) (some a)) hd b = us g H T s hd b := fun b => by
      unfold us
      rw [cnA_fr (s := s) (s' := csR (csR (csI s 3 a (nI 0)) 6 a (cR s (frF s a) (g + 11))) (frF s a) (g + 11) (some a)) rfl (fun _ _ _ _ => rfl) (fun n k hn hk => by
        rw [cR_ne _ _ (Or.inl (by omega)), cR_ne _ _ (Or.inl (by omega))]
        rfl)]
    have r6 : ∀ b, b ≠ a → cR (csR (csR (csI s 3 a (nI 0)) 6 a (cR s (frF s a) (g + 11))) (frF s a) (g + 11) (some a)) 6 b = cR s 6 b := fun b hb => by
      rw [cR_ne _ _ (Or.inl (by omega)), cR_ne _ _ (Or.inr hb)]
      rfl
    have r6a : cR (csR (csR (csI s 3 a (nI 0)) 6 a (cR s (frF s a) (g + 11))) (frF s a) (g + 11) (some a)) 6 a = cR s (frF s a) (g + 11) := by
      rw [cR_ne _ _ (Or.inl (by omega)), cR_at]
    have rk : cR (csR (csR (csI s 3 a (nI 0)) 6 a (cR s (frF s a) (g + 11))) (frF s a) (g + 11) (some a)) (frF s a) (g + 11) = some a := cR_at _ _ _ _
    have rk' : ∀ k, k = 7 ∨ k = 8 → k ≠ frF s a → cR (csR (csR (csI s 3 a (nI 0)) 6 a (cR s (frF s a) (g + 11))) (frF s a) (g + 11) (some a)) k (g + 11) = cR s k (g + 11) := fun k h1 h2 => by
      rw [cR_ne _ _ (Or.inl h2), cR_ne _ _ (Or.inl (by omega))]
      rfl
    have ui : ∀ b, b ≠ a → us g H T s (a :: hd) b = us g H T s hd b := fun b hb => by rw [uc b, ind_o (Ne.symm hb), Nat.add_zero]
    have i3 : ∀ b, b ≠ a → cI (csR (csR (csI s 3 a (nI 0)) 6 a (cR s (frF s a) (g + 11))) (frF s a) (g + 11) (some a)) 3 b = cI s 3 b := fun b hb => by
      show cI (csI s 3 a (nI 0)) 3 b = _
      rw [cI_other _ _ (Or.inr hb)]
    have i3a : cI (csR (csR (csI s 3 a (nI 0)) 6 a (cR s (frF s a) (g + 11))) (frF s a) (g + 11) (some a)) 3 a = nI 0 := by
      show cI (csI s 3 a (nI 0)) 3 a = _
      rw [cI_same]
    have iO : ∀ k b, k ≠ 3 → cI (csR (csR (csI s 3 a (nI 0)) 6 a (cR s (frF s a) (g + 11))) (frF s a) (g + 11) (some a)) k b = cI s k b := fun k b hk => by
      show cI (csI s 3 a (nI 0)) k b = _
      rw [cI_other _ _ (Or.inl hk)]
    have sm' : smP g H T (csR (csR (csI s 3 a (nI 0)) 6 a (cR s (frF s a) (g + 11))) (frF s a) (g + 11) (some a)) := ((p5.I (by decide)).R (Or.inl (by omega))).R (Or.inl (by omega))
    have kK : ∀ b, cK (csR (csR (csI s 3 a (nI 0)) 6 a (cR s (frF s a) (g + 11))) (frF s a) (g + 11) (some a)) b = cK s b := fun _ => rfl
    have lL : ∀ b, cL (csR (csR (csI s 3 a (nI 0)) 6 a (cR s (frF s a) (g + 11))) (frF s a) (g + 11) (some a)) b = cL s b := fun _ => rfl
    have aA : ∀ b, cA (csR (csR (csI s 3 a (nI 0)) 6 a (cR s (frF s a) (g + 11))) (frF s a) (g + 11) (some a)) b = cA s b := fun _ => rfl
    have jJ : ∀ b, cJ (csR (csR (csI s 3 a (nI 0)) 6 a (cR s (frF s a) (g + 11))) (frF s a) (g + 11) (some a)) b = cJ s b := fun _ => rfl
    generalize csR (csR (csI s 3 a (nI 0)) 6 a (cR s (frF s a) (g + 11))) (frF s a) (g + 11) (some a) = s1 at cn' r6 r6a rk rk' i3 i3a iO sm' kK lL aA jJ ⊢
    have mem : ∀ k L, (k = 7 ∧ L = 128) ∨ (k = 8 ∧ L = 1000) → fre g H T s (a :: hd) k L → fre g H T s1 hd k L := fun k L hkL hf => by
      obtain ⟨l, l1, l2, l3⟩ := hf
      have al : a ∉ l := fun z => by
        have := ((l3 a).1 z).2.2
        omega
      by_cases e : k = frF s a
      · have La : cL s (a + 2) = L := by
          unfold frF at e
          have := (p3 a k5).2.1
          split at e <;> omega
        refine ⟨a :: l, ⟨by rw [e]; exact rk, ?_⟩, List.nodup_cons.2 ⟨al, l2⟩, fun b => ?_⟩
        · rw [r6a, ← e]
          exact chn_fr l1 (fun b hb => r6 b (fun z => al (by rw [← z]; exact hb)))
        · rw [List.mem_cons, l3 b, kK, lL, cn']
          by_cases d : b = a
          · subst d
            constructor
            · intro _
              exact ⟨k5, La, u0⟩
            · intro _
              exact Or.inl rfl
          · rw [ui b d]
            constructor
            · rintro (x | x)
              · exact absurd x d
              · exact x
            · intro x
              exact Or.inr x
      · have La : cL s (a + 2) ≠ L := by
          unfold frF at e
          split at e <;> omega
        refine ⟨l, ?_, l2, fun b => ?_⟩
        · rw [rk' k (by omega) e]
          exact chn_fr l1 (fun b hb => r6 b (fun z => al (by rw [← z]; exact hb)))
        · rw [l3 b, kK, lL, cn']
          by_cases d : b = a
          · subst d
            constructor
            · rintro ⟨_, y, _⟩
              exact absurd y La
            · rintro ⟨_, y, _⟩
              exact absurd y La
          · rw [ui b d]
    refine ⟨mem 7 128 (Or.inl ⟨rfl, rfl⟩) p1, mem 8 1000 (Or.inr ⟨rfl, rfl⟩) p2, fun b hb => ?_, fun b hb => ?_, sm'⟩
    · rw [kK] at hb
      obtain ⟨x, y, v⟩ := p3 b hb
      rw [lL, cn']
      refine ⟨x, y, ?_⟩
      by_cases d : b = a
      · rw [d, i3a, u0]
      · rw [i3 b d, v, ui b d]
    · rw [cn'] at hb
      have d : b ≠ a := fun z => by
        rw [z] at hb
        omega
      exact (p4 b (by rw [ui b d]; exact hb)).fr (kK _) (lL _) (iO 2 b (by decide)) (iO 4 b (by decide)) (iO 5 b (by decide)) (jJ _) (aA _)
  · rw [if_neg c]
    have u1 : us g H T s hd a = u - 1 := by
      have := uc a
      rw [ind_s] at this
      omega
    have z : ∀ b, us g H T (csI s 3 a (nI (u - 1))) hd b = 0 ↔ us g H T s (a :: hd) b = 0 := fun b => by
      show us g H T s hd b = 0 ↔ _
      rw [uc b]
      by_cases d : a = b
      · subst d
        rw [ind_s]
        omega
      · rw [ind_o d]
        omega
    refine ⟨fre_fr p1 (fun _ => Iff.rfl) (fun _ _ => rfl) (fun _ _ => rfl) rfl z, fre_fr p2 (fun _ => Iff.rfl) (fun _ _ => rfl) (fun _ _ => rfl) rfl z, fun b hb => ?_, fun b hb => ?_, p5.I (by decide)⟩
    · obtain ⟨x, y, v⟩ := p3 b hb
      refine ⟨x, y, ?_⟩
      show cI (csI s 3 a (nI (u - 1))) 3 b = nI (us g H T s hd b)
      by_cases d : a = b
      · subst d
        rw [cI_same, u1]
      · rw [cI_other _ _ (Or.inr (Ne.symm d)), v, uc b, ind_o d, Nat.add_zero]
    · have hb' : 1 ≤ us g H T s (a :: hd) b := by
        have := z b
        omega
      exact (p4 b hb').fr rfl rfl (cI_other _ _ (Or.inl (by decide))) (cI_other _ _ (Or.inl (by decide))) (cI_other _ _ (Or.inl (by decide))) rfl rfl
/-- from a place to a hand, and from a hand to a place -/
theorem HP.mvS {i : Nat} (h : HP g H T s ct hd) (hi : i < 1000) (hx : cP s (g + 17) i = some a) : HP g H T (csP s (g + 17) i none) ct (a :: hd) := by
  refine h.fr (fun _ => Iff.rfl) (fun _ _ => rfl) (fun _ _ => rfl) (fun _ _ => rfl) (fun _ _ => rfl) (fun b => ?_) (fun b hb hm => hm.fr rfl rfl rfl rfl rfl rfl rfl) ?_
  · rw [us_cons]
    unfold us
    have e := cnA_sky (g := g) (H := H) (T := T) (s := s) (a := b) (x := none) hi
    rw [hx, ind_none] at e
    omega
  · have p := h.2.2.2.2
    refine ⟨fun n e j b h1 h2 h3 h4 => ?_, p.2⟩
    rw [cP_other _ _ _ (by have := plO_b e; unfold nd; omega)] at h4
    exact p.1 n e j b h1 h2 h3 h4
theorem HP.ptS {i : Nat} (h : HP g H T s ct (a :: hd)) (hi : i < 1000) (hx : cP s (g + 17) i = none) : HP g H T (csP s (g + 17) i (some a)) ct hd := by
  refine h.fr (fun _ => Iff.rfl) (fun _ _ => rfl) (fun _ _ => rfl) (fun _ _ => rfl) (fun _ _ => rfl) (fun b => ?_) (fun b hb hm => hm.fr rfl rfl rfl rfl rfl rfl rfl) ?_
  · rw [us_cons]
    unfold us
    have e := cnA_sky (g := g) (H := H) (T := T) (s := s) (a := b) (x := some a) hi
    rw [hx, ind_none] at e
    omega
  · have p := h.2.2.2.2
    refine ⟨fun n e j b h1 h2 h3 h4 => ?_, p.2⟩
    rw [cP_other _ _ _ (by have := plO_b e; unfold nd; omega)] at h4
    exact p.1 n e j b h1 h2 h3 h4
theorem smP.P {n e i : Nat} {x : Option Nat} (p : smP g H T s) (hn : n < H) (he : e < 6) (hx : ∀ a, x = some a → ((e = 1 ∨ e = 3 ∨ e = 4) → cL s (a + 2) = 128) ∧ (e ≤ 2 → cI s 4 a = nI 1)) : smP g H T (csP s (nd g n + plO e) i x) := by
  refine ⟨fun m f j b h1 h2 h3 h4 => ?_, p.2⟩
  have b1 := plO_b e
  have b2 := plO_b f
  by_cases c : m = n ∧ f = e
  · obtain ⟨rfl, rfl⟩ := c
    rw [cP_at] at h4
    by_cases d : j = i
    · rw [if_pos d] at h4
      exact hx b h4
    · rw [if_neg d] at h4
      exact p.1 m f j b h1 h2 h3 h4
  · rw [cP_other _ _ _ (by
      by_cases d : m = n
      · have := plO_ne e he f h2 (fun z => c ⟨d, z⟩)
        rw [d]
        omega
      · unfold nd
        omega)] at h4
    exact p.1 m f j b h1 h2 h3 h4
theorem HP.mvR {n e i : Nat} (h : HP g H T s ct hd) (hn : n < H) (he : e < 6) (hi : i < plN T e) (hx : cP s (nd g n + plO e) i = some a) : HP g H T (csP s (nd g n + plO e) i none) ct (a :: hd) := by
  refine h.fr (fun _ => Iff.rfl) (fun _ _ => rfl) (fun _ _ => rfl) (fun _ _ => rfl) (fun _ _ => rfl) (fun b => ?_) (fun b hb hm => hm.fr rfl rfl rfl rfl rfl rfl rfl) (h.2.2.2.2.P hn he (fun a z => by cases z))
  rw [us_cons]
  unfold us
  have e := cnA_row (g := g) (H := H) (T := T) (s := s) (a := b) (x := none) hn he hi
  rw [hx, ind_none] at e
  omega
theorem HP.ptR {n e i : Nat} (h : HP g H T s ct (a :: hd)) (hn : n < H) (he : e < 6) (hi : i < plN T e) (hx : cP s (nd g n + plO e) i = none) (h1 : (e = 1 ∨ e = 3 ∨ e = 4) → (ct a).length ≤ 128) (h2 : e ≤ 2 → cI s 4 a = nI 1) : HP g H T (csP s (nd g n + plO e) i (some a)) ct hd := by
  have m := (h.m us_self).1.2.2.2.2.1
  refine h.fr (fun _ => Iff.rfl) (fun _ _ => rfl) (fun _ _ => rfl) (fun _ _ => rfl) (fun _ _ => rfl) (fun b => ?_) (fun b hb hm => hm.fr rfl rfl rfl rfl rfl rfl rfl) (h.2.2.2.2.P hn he (fun b z => by
    cases z
    exact ⟨fun x => by rw [m, if_pos (h1 x)], h2⟩))
  rw [us_cons]
  unfold us
  have e := cnA_row (g := g) (H := H) (T := T) (s := s) (a := b) (x := some a) hn he hi
  rw [hx, ind_none] at e
  omega
theorem smP.Rf {n k : Nat} {x : Option Nat} (p : smP g H T s) (hx : ∀ a, x = some a → cI s 4 a = nI 1) : smP g H T (csR s k (nd g n) x) := by
  refine ⟨p.1, fun m j b h1 h2 h3 => ?_⟩
  by_cases c : j = k ∧ nd g m = nd g n
  · rw [c.1, c.2, cR_at] at h3
    exact hx b h3
  · rw [cR_ne _ _ (by omega)] at h3
    exact p.2 m j b h1 h2 h3
theorem HP.mvF {n k : Nat} (h : HP g H T s ct hd) (hn : n < H) (hk : k = 14 ∨ k = 15) (hx : cR s k (nd g n) = some a) : HP g H T (csR s k (nd g n) none) ct (a :: hd) := by
  refine h.fr (fun _ => Iff.rfl) (fun _ _ => rfl) (fun _ _ => rfl) (fun b _ => cR_ne _ _ (Or.inl (by omega))) (fun j hj => cR_ne _ _ (Or.inl (by omega))) (fun b => ?_) (fun b hb hm => hm.fr rfl rfl rfl rfl rfl rfl rfl) (h.2.2.2.2.Rf (fun a z => by cases z))
  rw [us_cons]
  unfold us
  have e := cnA_fld (g := g) (H := H) (T := T) (s := s) (a := b) (x := none) hn hk
  rw [hx, ind_none] at e
  omega
theorem HP.ptF {n k : Nat} (h : HP g H T s ct (a :: hd)) (hn : n < H) (hk : k = 14 ∨ k = 15) (hx : cR s k (nd g n) = none) (h2 : cI s 4 a = nI 1) : HP g H T (csR s k (nd g n) (some a)) ct hd := by
  refine h.fr (fun _ => Iff.rfl) (fun _ _ => rfl) (fun _ _ => rfl) (fun b _ => cR_ne _ _ (Or.inl (by omega))) (fun j hj => cR_ne _ _ (Or.inl (by omega))) (fun b => ?_) (fun b hb hm => hm.fr rfl rfl rfl rfl rfl rfl rfl) (h.2.2.2.2.Rf (fun b z => by cases z; exact h2))
  rw [us_cons]
  unfold us
  have e := cnA_fld (g := g) (H := H) (T := T) (s := s) (a := b) (x := some a) hn hk
  rw [hx, ind_none] at e
  omega
end
end
