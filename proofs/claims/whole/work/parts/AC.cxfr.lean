section
/-! FRAMES OF THE CLASS'S WORLD, by address; the sky over it -/
def x0f (P : Nat → Prop) (g H : Nat) (s s' : cS) : Prop := cn s ≤ cn s' ∧ (∀ a, a < cn s → cK s' a = cK s a ∧ cL s' a = cL s a) ∧ ∀ a, a < nd g H → ¬ P a → (∀ k, cI s' k a = cI s k a) ∧ (∀ k, cR s' k a = cR s k a) ∧ cA s' a = cA s a ∧ cJ s' a = cJ s a ∧ cP s' a = cP s a
def xfr (P : Nat → Prop) (g H : Nat) (s s' : cS) : Prop := cn s ≤ cn s' ∧ (∀ a, a < cn s → cK s' a = cK s a ∧ cL s' a = cL s a) ∧ (∀ a, a < nd g H → ¬ P a → (∀ k, cI s' k a = cI s k a) ∧ (∀ k, cR s' k a = cR s k a) ∧ cA s' a = cA s a ∧ cJ s' a = cJ s a ∧ cP s' a = cP s a) ∧ ∀ r, nd g H ≤ r → r < cn s → cK s r = 20 → cK s (r - 2) ≠ 5 → cA s' r = cA s r
/-- rows that nothing is read from between calls -/
def scP (g H a : Nat) : Prop := (g + 2 ≤ a ∧ a ≤ g + 7) ∨ a = g + 10 ∨ (g + 18 ≤ a ∧ a ≤ g + 22) ∨ a = g + 28 ∨ a = g + 29 ∨ ∃ n, n < H ∧ a = nd g n + 10
def skP (g a : Nat) : Prop := g + 11 ≤ a ∧ a ≤ g + 17
def ndP (g n a : Nat) : Prop := nd g n ≤ a ∧ a < nd g n + 24
section
variable {P P' : Nat → Prop} {F N g H T n m : Nat} {s s' s1 s2 : cS} {ct ct' : Nat → List Nat} {hd : List Nat} {w w' : Wd} {pe pe' : Nat → Int} {a b : Nat}
theorem xfr.refl : xfr P g H s s := ⟨Nat.le_refl _, fun _ _ => ⟨rfl, rfl⟩, fun _ _ _ => ⟨fun _ => rfl, fun _ => rfl, rfl, rfl, rfl⟩, fun _ _ _ _ _ => rfl⟩
theorem xfr.x0 (h : xfr P g H s s') : x0f P g H s s' := ⟨h.1, h.2.1, h.2.2.1⟩
theorem xfr.trans (h : xfr P g H s s1) (h' : xfr P g H s1 s2) : xfr P g H s s2 := by
  obtain ⟨a1, a2, a3, a4⟩ := h
  obtain ⟨b1, b2, b3, b4⟩ := h'
  refine ⟨(by omega), fun a ha => ?_, fun a ha hp => ?_, fun r r1 r2 r3 r4 => ?_⟩
  · have x := a2 a ha
    have y := b2 a (by omega)
    exact ⟨y.1.trans x.1, y.2.trans x.2⟩
  · obtain ⟨x1, x2, x3, x4, x5⟩ := a3 a ha hp
    obtain ⟨y1, y2, y3, y4, y5⟩ := b3 a ha hp
    exact ⟨fun k => (y1 k).trans (x1 k), fun k => (y2 k).trans (x2 k), y3.trans x3, y4.trans x4, y5.trans x5⟩
  · exact (b4 r r1 (by omega) (by rw [(a2 r r2).1]; exact r3) (by rw [(a2 (r - 2) (by omega)).1]; exact r4)).trans (a4 r r1 r2 r3 r4)
theorem xfr.mono (h : xfr P g H s s1) (hp : ∀ a, a < nd g H → P a → P' a) : xfr P' g H s s1 := ⟨h.1, h.2.1, fun a ha q => h.2.2.1 a ha (fun z => q (hp a ha z)), h.2.2.2⟩
theorem cfr.xf (h : cfr P s s') (hP : ∀ a, P a → a < nd g H) : xfr P g H s s' := by
  obtain ⟨h1, h2, h3, h4, h5, h6, h7, h8, h9⟩ := h
  exact ⟨by rw [h3]; exact Nat.le_refl _, fun a _ => ⟨by rw [h1], by rw [h2]⟩, fun a _ hp => ⟨fun k => h8 k a hp, fun k => by rw [h5], h9 a hp, by rw [h7], by rw [h6]⟩, fun r r1 _ _ _ => h9 r (fun z => by have := hP r z; omega)⟩
theorem mfr.xf (h : mfr g H s s') : xfr (skP g) g H s s' := ⟨h.1, h.2.1, fun a ha hp => ⟨fun k => h.2.2.1 k a ha, fun k => h.2.2.2.1 k a ha (Or.inl (fun z => hp (by unfold skP; omega))), h.2.2.2.2.1 a ha⟩, h.2.2.2.2.2⟩
theorem xfr_I {k : Nat} {v : Int32} : xfr (fun b => b = a) g H s (csI s k a v) := ⟨Nat.le_refl _, fun _ _ => ⟨rfl, rfl⟩, fun _ _ h => ⟨fun _ => cI_other _ _ (Or.inr h), fun _ => rfl, rfl, rfl, rfl⟩, fun _ _ _ _ _ => rfl⟩
theorem xfr_R {k : Nat} {v : Option Nat} : xfr (fun b => b = a) g H s (csR s k a v) := ⟨Nat.le_refl _, fun _ _ => ⟨rfl, rfl⟩, fun _ _ h => ⟨fun _ => rfl, fun _ => cR_ne _ _ (Or.inr h), rfl, rfl, rfl⟩, fun _ _ _ _ _ => rfl⟩
theorem xfr_A {f : Nat → Int32} (ha : a < nd g H) : xfr (fun b => b = a) g H s (csArow s a f) := ⟨Nat.le_refl _, fun _ _ => ⟨rfl, rfl⟩, fun _ _ h => ⟨fun _ => rfl, fun _ => rfl, cA_other _ _ h, rfl, rfl⟩, fun r r1 _ _ _ => cA_other _ _ (by omega)⟩
theorem xfr_J {f : Nat → Int64} : xfr (fun b => b = a) g H s (csJrow s a f) := ⟨Nat.le_refl _, fun _ _ => ⟨rfl, rfl⟩, fun _ _ h => ⟨fun _ => rfl, fun _ => rfl, rfl, cJ_other _ _ h, rfl⟩, fun _ _ _ _ _ => rfl⟩
theorem xfr_P {i : Nat} {x : Option Nat} : xfr (fun b => b = a) g H s (csP s a i x) := ⟨Nat.le_refl _, fun _ _ => ⟨rfl, rfl⟩, fun _ _ h => ⟨fun _ => rfl, fun _ => rfl, rfl, rfl, cP_other _ _ _ h⟩, fun _ _ _ _ _ => rfl⟩
theorem xfr.nfx (h : xfr P g H s s') (hn : n < H) (hp : ∀ o, o < 24 → o ≠ 10 → ¬ P (nd g n + o)) : nfx g H n s s' := by
  obtain ⟨f1, f2, f3, f4⟩ := h
  have l : ∀ o, o < 24 → nd g n + o < nd g H := fun o ho => by unfold nd; omega
  exact ⟨f1, f2, fun k o ho h10 => (f3 _ (l o ho) (hp o ho h10)).1 k, fun k _ => (f3 _ (l 0 (by decide)) (hp 0 (by decide) (by decide))).2.1 k, fun o ho h10 => (f3 _ (l o ho) (hp o ho h10)).2.2.1, fun o ho h10 => (f3 _ (l o ho) (hp o ho h10)).2.2.2, fun _ r _ _ r1 r2 r3 r4 => f4 r r1 r2 r3 r4⟩
/-- what is outside of the sky and of the nodes stays -/
theorem kk (h : CE F g H T s ct w pe) (hf : x0f P g H s s') (hp : ∀ a, a < g + 31 → P a → scP g H a ∨ skP g a) : kFx F g H T s' ∧ kTp g s' (wL w) ∧ kLa g s' := by
  obtain ⟨h1, h2, h3, h4, h5, h6⟩ := h
  obtain ⟨f1, f2, f3⟩ := hf
  have l : ∀ o, o ≤ 30 → g + o < nd g H := fun o ho => by unfold nd; omega
  have no : ∀ o, o = 0 ∨ o = 1 ∨ o = 8 ∨ o = 9 ∨ (23 ≤ o ∧ o ≤ 26) → ¬ P (g + o) := fun o ho z => by
    rcases hp (g + o) (by omega) z with x | x
    · unfold scP at x
      rcases x with x | x | x | x | x | ⟨n, hn, x⟩
      · omega
      · omega
      · omega
      · omega
      · omega
      · unfold nd at x
        omega
    · unfold skP at x
      omega
  refine ⟨?_, ?_, ?_⟩
  · unfold kFx
    have e8 := (f3 _ (l 8 (by decide)) (no 8 (by omega))).1
    have e9 := (f3 _ (l 9 (by decide)) (no 9 (by omega))).1
    rw [e8, e8, e8, e8, e9]
    exact h1
  · unfold kTp
    have e0 : cI s' 3 g = cI s 3 g := (f3 _ (l 0 (by decide)) (no 0 (by omega))).1 3
    rw [e0, (f3 _ (l 1 (by decide)) (no 1 (by omega))).2.2.1]
    exact h3
  · unfold kLa bkC rtC
    have e := (f3 _ (l 23 (by decide)) (no 23 (by omega))).1
    have e1 : cA s' (g + 23 + 1) = cA s (g + 23 + 1) := (f3 _ (l 24 (by decide)) (no 24 (by omega))).2.2.1
    have e2 : cA s' (g + 23 + 2) = cA s (g + 23 + 2) := (f3 _ (l 25 (by decide)) (no 25 (by omega))).2.2.1
    have e3 : cA s' (g + 23 + 3) = cA s (g + 23 + 3) := (f3 _ (l 26 (by decide)) (no 26 (by omega))).2.2.1
    rw [e, e, e1, e2, e3]
    exact h4
theorem kSk.fr {k : Sk} {tm : Nat} (h : kSk g s ct k tm) (hf : x0f P g H s s') (hp : ∀ a, skP g a → ¬ P a) : kSk g s' ct k tm := by
  obtain ⟨f1, f2, f3⟩ := hf
  have l : ∀ o, o ≤ 30 → g + o < nd g H := fun o ho => by unfold nd; omega
  have no : ∀ o, 11 ≤ o ∧ o ≤ 17 → ¬ P (g + o) := fun o ho => hp _ (by unfold skP; omega)
  have e := (f3 _ (l 11 (by decide)) (no 11 (by omega))).1
  unfold kSk cSkT
  rw [e, e, e, e, e, (f3 _ (l 12 (by decide)) (no 12 (by omega))).2.2.1, (f3 _ (l 13 (by decide)) (no 13 (by omega))).2.2.1, (f3 _ (l 14 (by decide)) (no 14 (by omega))).2.2.1, (f3 _ (l 15 (by decide)) (no 15 (by omega))).2.2.1, (f3 _ (l 16 (by decide)) (no 16 (by omega))).2.2.1, (f3 _ (l 17 (by decide)) (no 17 (by omega))).2.2.2.2]
  exact h
theorem kIn.fr (h : kIn g H s) (e : ∀ n, n < H → cP s' (nd g n + 2) = cP s (nd g n + 2)) : kIn g H s' := fun n i n' i' r a1 a2 a3 a4 a5 a6 => by
  rw [e n a1] at a5
  rw [e n' a2] at a6
  exact h n i n' i' r a1 a2 a3 a4 a5 a6
theorem scP_n {o : Nat} (ho : o < 24) (h10 : o ≠ 10) : ¬ scP g H (nd g n + o) := by
  unfold scP
  rintro (x | x | x | x | x | ⟨m, hm, x⟩) <;> unfold nd at x <;> omega
/-- scratch alone is written -/
theorem CE.xf (h : CE F g H T s ct w pe) (hf : xfr (scP g H) g H s s') : CE F g H T s' ct w pe := by
  obtain ⟨k1, k2, k3⟩ := kk h hf.x0 (fun a _ z => Or.inl z)
  refine ⟨k1, h.2.1.fr hf.x0 (fun a z x => ?_), k2, k3, h.2.2.2.2.1.fr (fun n hn => ?_), fun n hn => (h.2.2.2.2.2 n hn).fx (hf.nfx hn (fun o ho h10 => scP_n ho h10))⟩
  · unfold skP at z
    unfold scP at x
    rcases x with x | x | x | x | x | ⟨m, hm, x⟩
    · omega
    · omega
    · omega
    · omega
    · omega
    · unfold nd at x
      omega
  · exact (hf.2.2.1 _ (by unfold nd; omega) (scP_n (by decide) (by decide))).2.2.2.2
/-- the sky alone is written -/
theorem CE.sk {k : Sk} (h : CE F g H T s ct w pe) (hf : xfr (skP g) g H s s') (hk : kSk g s' ct k (wT w)) : CE F g H T s' ct (sK w k) pe := by
  obtain ⟨k1, k2, k3⟩ := kk h hf.x0 (fun a _ z => Or.inr z)
  have np : ∀ n o, ¬ skP g (nd g n + o) := fun n o => by
    unfold skP nd
    omega
  exact ⟨k1, hk, k2, k3, h.2.2.2.2.1.fr (fun n hn => (hf.2.2.1 _ (by unfold nd; omega) (np n 2)).2.2.2.2), fun n hn => (h.2.2.2.2.2 n hn).fx (hf.nfx hn (fun o _ _ => np n o))⟩
/-- one node alone is written -/
theorem CE.onx (h : CE F g H T s ct w pe) (hn : n < H) (hf : x0f (ndP g n) g H s s') (hx : ∀ m, m < H → m ≠ n → nfx g H m s s') (hw : ∀ m, m ≠ n → wN w' m = wN w m ∧ wY w' m = wY w m ∧ wP w' m = wP w m ∧ wX w' m = wX w m) (hK : wK w' = wK w) (hT : wT w' = wT w) (hL : wL w' = wL w) (hp : ∀ m, m ≠ n → pe' m = pe m) (hi : kIn g H s') (hc : CN g H T s' ct n (wN w' n) (wY w' n) (wP w' n) (wX w' n) (pe' n)) : CE F g H T s' ct w' pe' := by
  obtain ⟨k1, k2, k3⟩ := kk h hf (fun a ha z => by unfold ndP nd at z; omega)
  refine ⟨k1, by rw [hK, hT]; exact h.2.1.fr hf (fun a z x => by unfold skP at z; unfold ndP nd at x; omega), by rw [hL]; exact k2, k3, hi, fun m hm => ?_⟩
  by_cases c : m = n
  · rw [c]
    exact hc
  · obtain ⟨e1, e2, e3, e4⟩ := hw m c
    rw [e1, e2, e3, e4, hp m c]
    exact (h.2.2.2.2.2 m hm).fx (hx m hm c)
theorem CE.one (h : CE F g H T s ct w pe) (hn : n < H) (hf : xfr (ndP g n) g H s s') (hw : ∀ m, m ≠ n → wN w' m = wN w m ∧ wY w' m = wY w m ∧ wP w' m = wP w m ∧ wX w' m = wX w m) (hK : wK w' = wK w) (hT : wT w' = wT w) (hL : wL w' = wL w) (hp : ∀ m, m ≠ n → pe' m = pe m) (hi : cP s' (nd g n + 2) = cP s (nd g n + 2)) (hc : CN g H T s' ct n (wN w' n) (wY w' n) (wP w' n) (wX w' n) (pe' n)) : CE F g H T s' ct w' pe' := h.onx hn hf.x0 (fun m hm c => hf.nfx hm (fun o ho _ => by unfold ndP nd; omega)) hw hK hT hL hp (h.2.2.2.2.1.fr (fun m hm => by
  by_cases c : m = n
  · rw [c]
    exact hi
  · exact (hf.2.2.1 _ (by unfold nd; omega) (by unfold ndP nd; omega)).2.2.2.2)) hc
/-- what a hand lets go -/
theorem us_le (hH : H ≤ 13) (hT : T ≤ 13) (hl : hd.length ≤ 60) : us g H T s hd a ≤ 20060 := by
  have := cnA_le (g := g) (s := s) (a := a) hH hT
  have := List.count_le_length (a := a) (l := hd)
  unfold us
  omega
theorem oS7 : isO g H 7 (g + 11) := Or.inr (Or.inr (Or.inr (Or.inr (Or.inr (Or.inr (Or.inl ⟨rfl, rfl⟩))))))
theorem isO8 : isO g H 8 (g + 8) := Or.inr (Or.inr (Or.inr (Or.inr (Or.inr (Or.inr (Or.inr (Or.inl ⟨rfl, rfl⟩)))))))
theorem isO5 (hn : n < H) : isO g H 5 (nd g n) := Or.inr (Or.inr (Or.inr (Or.inr (Or.inl ⟨rfl, n, hn, rfl⟩))))
theorem cst.bb (h : cst F H T) : H ≤ 13 ∧ T ≤ 13 ∧ H ≤ T ∧ 4 ≤ T ∧ 1 ≤ F := by
  obtain ⟨h1, h2, h3, h4, h5⟩ := h
  omega
theorem cDrp_m {u : Nat} (ha : nd g H ≤ a) : mfr g H s (cDrp s (g + 11) a u) := by
  unfold cDrp
  have fk := frF_k s a
  split
  · exact ((mfr_I ha).trans (mfr_R (Or.inl ha))).trans (mfr_R (Or.inr ⟨rfl, fk⟩))
  · exact mfr_I ha
theorem cDrp_o {u : Nat} : cK (cDrp s (g + 11) a u) = cK s ∧ cL (cDrp s (g + 11) a u) = cL s ∧ cn (cDrp s (g + 11) a u) = cn s ∧ ck (cDrp s (g + 11) a u) = ck s ∧ cP (cDrp s (g + 11) a u) = cP s ∧ cA (cDrp s (g + 11) a u) = cA s ∧ cJ (cDrp s (g + 11) a u) = cJ s := by
  unfold cDrp
  split <;> exact ⟨rfl, rfl, rfl, rfl, rfl, rfl, rfl⟩
theorem RM.fr {bn bk : Nat} (h : RM g H bn bk s) (eK : cK s' = cK s) (eL : cL s' = cL s) (en : cn s' = cn s) (ek : ck s' = ck s) (eP : ∀ n, n < H → cP s' (nd g n + 2) = cP s (nd g n + 2)) : RM g H bn bk s' := by
  have e1 : ∀ L, nM s' L = nM s L := fun L => by
    unfold nM
    rw [en, eK, eL]
  have e2 : nSe g H s' = nSe g H s := by
    unfold nSe
    exact sm_eq (fun n hn => by rw [eP n hn])
  unfold RM
  rw [e1, e1, e2, en, ek]
  exact h
theorem drop_C (h : CR F g H T s ct (a :: hd) w pe) (hl : hd.length ≤ 30) : wp (p_X9_drop N g H T s (g + 11) (some a)) (k_X9_drop N g H T s (g + 11) (some a)) (fun z => CR F g H T z ct hd w pe ∧ ∀ x, nd g H ≤ x → cI z 4 x = cI s 4 x) := by
  obtain ⟨h1, h2, h3, h4, h5, h6⟩ := h
  have cb := h1.bb
  have u1 : 1 ≤ us g H T s (a :: hd) a := us_self
  have k5 := h4.k u1
  have l := h4.n k5
  have ub := us_le (g := g) (s := s) (a := a) (hd := a :: hd) cb.1 cb.2.1 (by show hd.length + 1 ≤ 60; omega)
  have L := (h4.2.2.1 a k5).2.1
  obtain ⟨d1, d2⟩ := drop_c (N := N) (g := g) (H := H) (T := T) (q := g + 11) (h4.u k5) u1 (by omega) (by omega)
  have st := (kpc_X9_drop h2 oS7 (tK_some k5) d1).1
  obtain ⟨o1, o2, o3, o4, o5, o6, o7⟩ := cDrp_o (s := s) (g := g) (a := a) (u := us g H T s (a :: hd) a)
  refine wp_fin d1 ?_
  rw [d2] at st ⊢
  refine ⟨⟨h1, st, by rw [o3]; exact h3, h4.dr rfl, h5.fr o1 o2 o3 o4 (fun n _ => by rw [o5]), h6.mf (cDrp_m l)⟩, fun x _ => ?_⟩
  unfold cDrp
  split
  · show cI (csI s 3 a (nI 0)) 4 x = _
    exact cI_other _ _ (Or.inl (by decide))
  · exact cI_other _ _ (Or.inl (by decide))
theorem cLau_I {q p x m n : Nat} {a b : Int32} (hm : m ≠ q) (k c : Nat) : cI (cLau s q p x m n a b) k c = if c = m ∧ k = 3 then cI s 3 m + nI 1 else if c = q ∧ k = 9 then nI (n + 1) else cI s k c := by
  unfold cLau
  by_cases d : c = m ∧ k = 3
  · rw [if_pos d, d.1, d.2, cI_same]
  · rw [if_neg d, cI_other _ _ (by omega)]
    show cI (csI (csA s (q + 1) p (nI x)) 9 q (nI (n + 1))) k c = _
    by_cases e : c = q ∧ k = 9
    · rw [if_pos e, e.1, e.2, cI_same]
    · rw [if_neg e, cI_other _ _ (by omega)]
      rfl
theorem cLau_A {q p x m n : Nat} {a b : Int32} {c : Nat} (hc : c < q ∨ q + 6 ≤ c) : cA (cLau s q p x m n a b) c = cA s c := by
  unfold cLau
  rw [cA_I]
  show cA (csA (csA (csA (csI (csA s (q + 1) p (nI x)) 9 q (nI (n + 1))) (q + 3) x a) (q + 4) x b) (q + 5) x (cI s 10 q)) c = _
  rw [cA_ne _ _ _ (by omega), cA_ne _ _ _ (by omega), cA_ne _ _ _ (by omega), cA_I, cA_ne _ _ _ (by omega)]
theorem cLau_P {q p x m n : Nat} {a b : Int32} {c j : Nat} : cP (cLau s q p x m n a b) c j = if c = q + 6 ∧ j = x then some m else cP s c j := by
  have e : cP (cLau s q p x m n a b) = cP (csP s (q + 6) x (some m)) := rfl
  rw [e]
  by_cases d : c = q + 6
  · rw [d, cP_at]
    by_cases f : j = x
    · rw [if_pos f, if_pos ⟨rfl, f⟩]
    · rw [if_neg f, if_neg (fun z => f z.2)]
  · rw [cP_other _ _ _ d, if_neg (fun z => d z.1)]
theorem cLau_r {q p x m n : Nat} {a b : Int32} : cK (cLau s q p x m n a b) = cK s ∧ cL (cLau s q p x m n a b) = cL s ∧ cR (cLau s q p x m n a b) = cR s ∧ cJ (cLau s q p x m n a b) = cJ s ∧ cn (cLau s q p x m n a b) = cn s ∧ ck (cLau s q p x m n a b) = ck s := ⟨rfl, rfl, rfl, rfl, rfl, rfl⟩
/-- a message is posted -/
theorem post_C {m f t : Nat} (h : CR F g H T s ct hd w pe) (hm : 1 ≤ us g H T s hd m) : wp (p_X9_post N g H T s (g + 11) (nI f) (nI t) (some m)) (k_X9_post N g H T s (g + 11) (nI f) (nI t) (some m)) (fun z => CR F g H T z ct hd (aPost w f t (ct m)) pe ∧ ∀ x, nd g H ≤ x → cI z 4 x = cI s 4 x) := by
  obtain ⟨h1, h2, h3, h4, h5, h6⟩ := h
  have k5 := h4.k hm
  have lm := h4.n k5
  have mq : m ≠ g + 11 := by unfold nd at lm; omega
  obtain ⟨⟨ld, tt, q1, q2, q3⟩, q4, q5, q6⟩ := h6.2.1
  obtain ⟨p1, p2⟩ := post_sk (N := N) (g := g) (H := H) (T := T) (a := f) (b := t) (y := ct m) (k := wK w) ⟨⟨tt, q1⟩, q4, q5⟩ mq q6
  have st := (kpc_X9_post h2 oS7 (tK_some k5) p1).1
  refine wp_fin p1 ?_
  have hl := q1.2.1
  have e9 : cI (csI s 11 (g + 11) (cI s 11 (g + 11) + nI 1)) 9 (g + 11) = nI (wK w).1.length := by rw [cI_other _ _ (Or.inl (by decide))]; exact q1.1
  by_cases c : (wK w).1.length < 1000
  · have a1 : cSkT (csI s 11 (g + 11) (cI s 11 (g + 11) + nI 1)) (g + 11) (wK w).1 ld tt := q1.I (Or.inl (by decide))
    obtain ⟨_, fi, f1, f2, fe⟩ := launch_c (N := N) (g := g) (H := H) (T := T) (a := nI f) (b := nI t) a1 c mq
    have e10 : cI (csI s 11 (g + 11) (cI s 11 (g + 11) + nI 1)) 10 (g + 11) = nI (wT w) := by rw [cI_other _ _ (Or.inl (by decide))]; exact q6
    have sk := launch_sk (N := N) (g := g) (H := H) (T := T) (a := f) (b := t) (y := ct m) a1 c mq e10
    have eq : k_X9_post N g H T s (g + 11) (nI f) (nI t) (some m) = cLau (csI s 11 (g + 11) (cI s 11 (g + 11) + nI 1)) (g + 11) ((fi + (wK w).1.length) % 1024) (tt (wK w).1.length) m (wK w).1.length (nI f) (nI t) := by
      show KF_X9_post_0 N g H T (g + 11) (nI f) (nI t) (some m) s = _
      unfold KF_X9_post_0 KF_X9_post_27 KF_X9_post_40
      rw [e9, if_neg (by rw [n_le' (by omega) (by omega)]; omega), fe]
    rw [eq] at st p2 ⊢
    rw [fe] at sk
    have ep : pst (wK w) (f, t, wT w, ct m) = ((wK w).1 ++ [(f, t, wT w, ct m)], (wK w).2.1 + 1, (wK w).2.2) := by
      unfold pst
      rw [if_pos c]
    unfold aPost
    have vac := q3 (wK w).1.length (Nat.le_refl _) c
    have tl := q1.2.2.2.2.1 (wK w).1.length c
    have up := h4.up hm
    have v3 : cP (csI s 3 m (cI s 3 m + nI 1)) (g + 17) (tt (wK w).1.length) = none := vac
    have pt := up.ptS tl v3
    have e11 : cI (csI s 11 (g + 11) (cI s 11 (g + 11) + nI 1)) 3 m = cI s 3 m := cI_other _ _ (Or.inl (by decide))
    have iS := cLau_I (s := csI s 11 (g + 11) (cI s 11 (g + 11) + nI 1)) (q := g + 11) (p := (fi + (wK w).1.length) % 1024) (x := tt (wK w).1.length) (m := m) (n := (wK w).1.length) (a := nI f) (b := nI t) mq
    have aS := fun (c : Nat) (hc : c < g + 11 ∨ g + 11 + 6 ≤ c) => cLau_A (s := csI s 11 (g + 11) (cI s 11 (g + 11) + nI 1)) (q := g + 11) (p := (fi + (wK w).1.length) % 1024) (x := tt (wK w).1.length) (m := m) (n := (wK w).1.length) (a := nI f) (b := nI t) hc
    have pS := fun (c j : Nat) => cLau_P (s := csI s 11 (g + 11) (cI s 11 (g + 11) + nI 1)) (q := g + 11) (p := (fi + (wK w).1.length) % 1024) (x := tt (wK w).1.length) (m := m) (n := (wK w).1.length) (a := nI f) (b := nI t) (c := c) (j := j)
    obtain ⟨kK, lL, rR, jJ, nn, nk⟩ := cLau_r (s := csI s 11 (g + 11) (cI s 11 (g + 11) + nI 1)) (q := g + 11) (p := (fi + (wK w).1.length) % 1024) (x := tt (wK w).1.length) (m := m) (n := (wK w).1.length) (a := nI f) (b := nI t)
    have kK' : cK (csI s 11 (g + 11) (cI s 11 (g + 11) + nI 1)) = cK s := rfl
    have lL' : cL (csI s 11 (g + 11) (cI s 11 (g + 11) + nI 1)) = cL s := rfl
    have rR' : cR (csI s 11 (g + 11) (cI s 11 (g + 11) + nI 1)) = cR s := rfl
    have jJ' : cJ (csI s 11 (g + 11) (cI s 11 (g + 11) + nI 1)) = cJ s := rfl
    have nn' : cn (csI s 11 (g + 11) (cI s 11 (g + 11) + nI 1)) = cn s := rfl
    have nk' : ck (csI s 11 (g + 11) (cI s 11 (g + 11) + nI 1)) = ck s := rfl
    have aA' : cA (csI s 11 (g + 11) (cI s 11 (g + 11) + nI 1)) = cA s := rfl
    have pP' : cP (csI s 11 (g + 11) (cI s 11 (g + 11) + nI 1)) = cP s := rfl
    rw [kK'] at kK
    rw [lL'] at lL
    rw [rR'] at rR
    rw [jJ'] at jJ
    rw [nn'] at nn
    rw [nk'] at nk
    rw [aA'] at aS
    rw [pP'] at pS
    have i11 : ∀ k c, c ≠ g + 11 ∨ k ≠ 11 → cI (csI s 11 (g + 11) (cI s 11 (g + 11) + nI 1)) k c = cI s k c := fun k c h => cI_other _ _ (by omega)
    generalize cLau (csI s 11 (g + 11) (cI s 11 (g + 11) + nI 1)) (g + 11) ((fi + (wK w).1.length) % 1024) (tt (wK w).1.length) m (wK w).1.length (nI f) (nI t) = s' at st p2 sk iS aS pS kK lL rR jJ nn nk ⊢
    have pS2 : ∀ b, cP s' b = cP (csP (csI s 3 m (cI s 3 m + nI 1)) (g + 17) (tt (wK w).1.length) (some m)) b := fun b => funext fun j => by
      rw [pS b j]
      by_cases d : b = g + 17
      · rw [d, cP_at]
        by_cases e : j = tt (wK w).1.length
        · rw [if_pos e, if_pos ⟨rfl, e⟩]
        · rw [if_neg e, if_neg (fun z => e z.2)]
          rfl
      · rw [cP_other _ _ _ d, if_neg (fun z => d z.1)]
        rfl
    have i3 : ∀ b, nd g H ≤ b → ∀ k, cI s' k b = cI (csI s 3 m (cI s 3 m + nI 1)) k b := fun b hb k => by
      have bq : b ≠ g + 11 := by unfold nd at hb; omega
      rw [iS k b, e11]
      by_cases d : b = m ∧ k = 3
      · rw [if_pos d, d.1, d.2, cI_same]
      · rw [if_neg d, if_neg (fun z => bq z.1), i11 k b (Or.inl bq), cI_other _ _ (by omega)]
    have aO : ∀ b, ¬ skP g b → cA s' b = cA s b := fun b hb => aS b (by unfold skP at hb; omega)
    have iO : ∀ b, ¬ skP g b → b < nd g H → ∀ k, cI s' k b = cI s k b := fun b hb hb2 k => by
      have bq : b ≠ g + 11 := fun z => hb (by unfold skP; omega)
      rw [iS k b, if_neg (fun z => by omega), if_neg (fun z => bq z.1), i11 k b (Or.inl bq)]
    have i10 : cI s' 10 (g + 11) = nI (wT w) := by
      rw [iS 10 (g + 11), if_neg (by omega), if_neg (by omega)]
      exact e10
    have pO : ∀ b, cP s' b = cP (csP (csI s 3 m (cI s 3 m + nI 1)) (g + 17) (tt (wK w).1.length) (some m)) b := pS2
    have pX : ∀ b, b ≠ g + 17 → cP s' b = cP s b := fun b hb => by
      rw [pO b, cP_other _ _ _ hb]
      rfl
    have hf : xfr (skP g) g H s s' := ⟨by rw [nn]; exact Nat.le_refl _, fun a _ => ⟨by rw [kK], by rw [lL]⟩, fun a ha hp => ⟨fun k => iO a hp ha k, fun k => by rw [rR], aO a hp, by rw [jJ], pX a (fun z => hp (by unfold skP; omega))⟩, fun r r1 _ _ _ => aO r (by unfold skP; unfold nd at r1; omega)⟩
    have HPs : HP g H T s' ct hd := by
      have rr : cR (csP (csI s 3 m (cI s 3 m + nI 1)) (g + 17) (tt (wK w).1.length) (some m)) = cR s := rfl
      have cc : ∀ b, cnA g H T s' b = cnA g H T (csP (csI s 3 m (cI s 3 m + nI 1)) (g + 17) (tt (wK w).1.length) (some m)) b := fun b => cnA_fr (pO _) (fun _ _ _ _ => pO _) (fun _ _ _ _ => by rw [rR, rr])
      refine pt.fr (fun b => by rw [kK]; exact Iff.rfl) (fun b _ => by rw [lL]; rfl) (fun b hb => i3 b (h4.n hb) 3) (fun b _ => by rw [rR, rr]) (fun k _ => by rw [rR, rr]) (fun b => by unfold us; rw [cc b]) (fun b hb hm => ?_) ?_
      · have lb := h4.n hm.1.1
        exact hm.fr (by rw [kK]; rfl) (by rw [lL]; rfl) (i3 b lb 2) (i3 b lb 4) (i3 b lb 5) (by rw [jJ]; rfl) (aO _ (by unfold skP; unfold nd at lb; omega))
      · have sp := pt.2.2.2.2
        have kb : ∀ b, 1 ≤ cnA g H T (csP (csI s 3 m (cI s 3 m + nI 1)) (g + 17) (tt (wK w).1.length) (some m)) b → nd g H ≤ b := fun b hb => pt.n (pt.k (by unfold us; omega))
        refine ⟨fun n e i b x1 x2 x3 x4 => ?_, fun n k b x1 x2 x3 => ?_⟩
        · rw [pO] at x4
          rw [lL, i3 b (kb b (cnA_hr x1 x2 x3 x4)) 4]
          exact sp.1 n e i b x1 x2 x3 x4
        · rw [rR] at x3
          rw [i3 b (kb b (cnA_hf x1 x2 x3)) 4]
          exact sp.2 n k b x1 x2 x3
    refine ⟨⟨h1, st, by rw [nn]; exact h3, HPs, h5.fr kK lL nn nk (fun n hn => pX _ (by unfold nd; omega)), h6.sk hf ?_⟩, fun x hx => by rw [i3 x hx 4]; exact cI_other _ _ (Or.inl (by decide))⟩
    obtain ⟨⟨_, _⟩, w4, w5⟩ := p2
    rw [ep] at w4 w5 ⊢
    refine ⟨⟨_, tt, sk, fun i hi => ?_, fun j hj hj2 => ?_⟩, w4, w5, i10⟩
    · show ct (if i = (wK w).1.length then m else ld i) = (fg ((wK w).1 ++ [(f, t, wT w, ct m)]) i).2.2.2
      unfold fg
      by_cases d : i = (wK w).1.length
      · rw [if_pos d, d, List.getD_eq_getElem?_getD, List.getElem?_append_right (Nat.le_refl _), Nat.sub_self]
        rfl
      · have hi' : i < (wK w).1.length := by
          have : i < ((wK w).1 ++ [(f, t, wT w, ct m)]).length := hi
          rw [List.length_append] at this
          simp at this
          omega
        rw [if_neg d, List.getD_eq_getElem?_getD, List.getElem?_append_left hi', ← List.getD_eq_getElem?_getD]
        exact q2 i hi'
    · have hj' : (wK w).1.length + 1 ≤ j := by
        have : ((wK w).1 ++ [(f, t, wT w, ct m)]).length ≤ j := hj
        rw [List.length_append] at this
        exact this
      rw [pO, cP_at, if_neg (fun z => by
        have := q1.2.2.2.2.2.1 j (wK w).1.length hj2 c z
        omega)]
      exact q3 j (by omega) hj2
  · have ep : pst (wK w) (f, t, wT w, ct m) = ((wK w).1, (wK w).2.1 + 1, (wK w).2.2 + 1) := by
      unfold pst
      rw [if_neg c]
    have eq : k_X9_post N g H T s (g + 11) (nI f) (nI t) (some m) = csI (csI s 11 (g + 11) (cI s 11 (g + 11) + nI 1)) 12 (g + 11) (cI (csI s 11 (g + 11) (cI s 11 (g + 11) + nI 1)) 12 (g + 11) + nI 1) := by
      show KF_X9_post_0 N g H T (g + 11) (nI f) (nI t) (some m) s = _
      unfold KF_X9_post_0 KF_X9_post_40
      rw [e9, if_pos (by rw [n_le' (by omega) (by omega)]; omega)]
    rw [eq] at st p2 ⊢
    have f1 : cfr (fun b => b = g + 11) s (csI (csI s 11 (g + 11) (cI s 11 (g + 11) + nI 1)) 12 (g + 11) (cI (csI s 11 (g + 11) (cI s 11 (g + 11) + nI 1)) 12 (g + 11) + nI 1)) := (cfr_I _ _ _ _).trans (cfr_I _ _ _ _)
    have lq : ∀ a, a = g + 11 → a < nd g H := fun a ha => by unfold nd; omega
    refine ⟨⟨h1, st, h3, h4.cf f1 lq, h5.fr rfl rfl rfl rfl (fun _ _ => rfl), ?_⟩, fun x hx => f1.I 4 x (by unfold nd at hx; omega)⟩
    unfold aPost
    refine h6.sk ((f1.xf lq).mono (fun a _ z => by unfold skP; omega)) ?_
    obtain ⟨⟨t', w3⟩, w4, w5⟩ := p2
    rw [ep] at w4 w5 ⊢
    refine ⟨⟨ld, tt, (q1.I (Or.inl (by decide))).I (Or.inl (by decide)), q2, q3⟩, w4, w5, ?_⟩
    rw [cI_other _ _ (Or.inl (by decide)), cI_other _ _ (Or.inl (by decide))]
    exact q6
/-- a message is spread -/
theorem us_in {m : Nat} (h : m ∈ hd) : 1 ≤ us g H T s hd m := by
  have := List.count_pos_iff.2 h
  unfold us
  omega
theorem spread_C {m f b c : Nat} (hN : 100 ≤ N) (h : CR F g H T s ct hd w pe) (hm : m ∈ hd) (hf : f < 100) (hb : b < 100) (hc : c < 100) : wp (p_X10_spread N g H T s (g + 8) (nI f) (some m) (nI b) (nI c)) (k_X10_spread N g H T s (g + 8) (nI f) (some m) (nI b) (nI c)) (fun z => CR F g H T z ct hd (aOn w f T b c (ct m)) pe ∧ ∀ x, nd g H ≤ x → cI z 4 x = cI s 4 x) := by
  have hT := h.1.bb
  show wp (KO_X10_spread_0 N g H T (g + 8) (nI f) (some m) (nI b) (nI c) s) (KF_X10_spread_0 N g H T (g + 8) (nI f) (some m) (nI b) (nI c) s) _
  unfold KO_X10_spread_0 KF_X10_spread_0
  refine wp_seq (Q := fun z : Nat × cS => CR F g H T z.2 ct hd (aOn w f T b c (ct m)) pe ∧ ∀ x, nd g H ≤ x → cI z.2 4 x = cI s 4 x) ?_ (fun z hz => wp_fin trivial hz)
  refine wp_loop (K := T) (fun j (x : cS) => CR F g H T x ct hd (sK w (pstN (wK w) f (wT w) (ct m) (fun j => decide (j ≠ f ∧ j ≠ b ∧ j ≠ c)) j)) pe ∧ ∀ y, nd g H ≤ y → cI x 4 y = cI s 4 y) (fun n j x => KOL_X10_spread_3 N g H T n (g + 8) (nI f) (some m) (nI b) (nI c) (nI j) x) (fun n j x => KL_X10_spread_3 N g H T n (g + 8) (nI f) (some m) (nI b) (nI c) (nI j) x) (fun n j x hj hI ih => ?_) 0 N s (by omega) (by omega) ⟨h, fun _ _ => rfl⟩
  obtain ⟨h1, h2⟩ := hI
  unfold KOL_X10_spread_3 KL_X10_spread_3 KOB_X10_spread_3 KB_X10_spread_3
  have fx : cI x 1 (g + 8) = nI T := h1.2.2.2.2.2.1.2.1
  rw [fx]
  by_cases e : j = T
  · refine wp_pos (by rw [n_le' (by omega) (by omega)]; omega) (wp_fin trivial ⟨?_, h2⟩)
    unfold aOn
    rw [e] at h1
    exact h1
  have no : ¬ (j ≠ f ∧ j ≠ b ∧ j ≠ c) → wp (KO_X10_spread_42 N g H T (KOL_X10_spread_3 N g H T n) (g + 8) (nI f) (some m) (nI b) (nI c) (nI j) x) (KF_X10_spread_42 N g H T (KL_X10_spread_3 N g H T n) (g + 8) (nI f) (some m) (nI b) (nI c) (nI j) x) (fun z : Nat × cS => CR F g H T z.2 ct hd (aOn w f T b c (ct m)) pe ∧ ∀ x, nd g H ≤ x → cI z.2 4 x = cI s 4 x) := fun z => by
    unfold KO_X10_spread_42 KF_X10_spread_42
    rw [n_add]
    refine ih x ⟨?_, h2⟩ (by omega)
    have en : pstN (wK w) f (wT w) (ct m) (fun j => decide (j ≠ f ∧ j ≠ b ∧ j ≠ c)) (j + 1) = pstN (wK w) f (wT w) (ct m) (fun j => decide (j ≠ f ∧ j ≠ b ∧ j ≠ c)) j := if_neg (by simpa using z)
    rw [en]
    exact h1
  refine wp_neg (by rw [n_le' (by omega) (by omega)]; omega) (wp_ite (fun c1 => ?_) (fun c1 => wp_ite (fun c2 => ?_) (fun c2 => wp_ite (fun c3 => ?_) (fun c3 => ?_))))
  · rw [n_eq' (by omega) (by omega)] at c1
    exact no (fun z => z.1 c1)
  · rw [n_eq' (by omega) (by omega)] at c2
    exact no (fun z => z.2.1 c2)
  · rw [n_eq' (by omega) (by omega)] at c3
    exact no (fun z => z.2.2 c3)
  · rw [n_eq' (by omega) (by omega)] at c1
    rw [n_eq' (by omega) (by omega)] at c2
    rw [n_eq' (by omega) (by omega)] at c3
    refine wp_call (post_C (f := f) (t := j) h1 (us_in hm)) (fun hp => ?_)
    generalize k_X9_post N g H T x (g + 11) (nI f) (nI j) (some m) = x1 at hp ⊢
    unfold KO_X10_spread_42 KF_X10_spread_42
    rw [n_add]
    refine ih x1 ⟨?_, fun y hy => (hp.2 y hy).trans (h2 y hy)⟩ (by omega)
    have en : pstN (wK w) f (wT w) (ct m) (fun j => decide (j ≠ f ∧ j ≠ b ∧ j ≠ c)) (j + 1) = pst (pstN (wK w) f (wT w) (ct m) (fun j => decide (j ≠ f ∧ j ≠ b ∧ j ≠ c)) j) (f, j, wT w, ct m) := if_pos (by simpa using ⟨c1, c2, c3⟩)
    rw [en]
    exact hp.1
/-- a message is taken out of the sky -/
theorem take_C {k : Nat} (hN : 2000 ≤ N) (h : CR F g H T s ct hd w pe) (hk : k < (wK w).1.length) : wp (p_X9_take N g H T s (g + 11) (nI k)) (k_X9_take N g H T s (g + 11) (nI k)) (fun z => ∃ m, z.1 = some m ∧ ct m = (fg (wK w).1 k).2.2.2 ∧ CR F g H T z.2 ct (m :: hd) (sK w (skE (wK w) k)) pe) := by
  obtain ⟨h1, h2, h3, h4, h5, h6⟩ := h
  obtain ⟨⟨ld, tt, q1, q2, q3⟩, q4, q5, q6⟩ := h6.2.1
  obtain ⟨t1, t2⟩ := take_c (N := N) (g := g) (H := H) (T := T) hN q1 hk
  have st := (kpc_X9_take h2 oS7 t1).1
  obtain ⟨z1, f, r, f1, f2, f3, z2⟩ := t2
  have sk := take_sk q1 hk f1 f2 f3
  refine wp_fin t1 ⟨ld k, z1, q2 k hk, ?_⟩
  have hl := q1.2.1
  have tl := q1.2.2.2.2.1 k (by omega)
  have cell := (q1.2.2.2.2.2.2 k hk).2.2.2
  have mv := h4.mvS tl cell
  rw [z2] at st ⊢
  have f' : cfr (skP g) (csP s (g + 17) (tt k) none) (csA (csI (csI (csArow (csP s (g + 11 + 6) (tt k) none) (g + 11 + 1) r) 6 (g + 11) (nI ((f + 1) % 1024))) 9 (g + 11) (nI ((wK w).1.length - 1))) (g + 11 + 2) ((wK w).1.length - 1) (nI (tt k))) := by
    refine (((cfr_A _ _ _).mono (fun a z => ?_)).trans (((cfr_I _ _ _ _).mono (fun a z => ?_)).trans (((cfr_I _ _ _ _).mono (fun a z => ?_)).trans ((cfr_A _ _ _).mono (fun a z => ?_))))) <;> (unfold skP; omega)
  have lq : ∀ a, skP g a → a < nd g H := fun a ha => by unfold skP at ha; unfold nd; omega
  have hp := mv.cf f' lq
  have xf : xfr (skP g) g H s (csA (csI (csI (csArow (csP s (g + 11 + 6) (tt k) none) (g + 11 + 1) r) 6 (g + 11) (nI ((f + 1) % 1024))) 9 (g + 11) (nI ((wK w).1.length - 1))) (g + 11 + 2) ((wK w).1.length - 1) (nI (tt k))) := ((xfr_P (i := tt k) (x := none) (a := g + 17)).mono (fun a _ z => by unfold skP; omega)).trans (f'.xf lq)
  have i10 : ∀ j, j = 10 ∨ j = 11 ∨ j = 12 → cI (csA (csI (csI (csArow (csP s (g + 11 + 6) (tt k) none) (g + 11 + 1) r) 6 (g + 11) (nI ((f + 1) % 1024))) 9 (g + 11) (nI ((wK w).1.length - 1))) (g + 11 + 2) ((wK w).1.length - 1) (nI (tt k))) j (g + 11) = cI s j (g + 11) := fun j hj => by
    show cI (csI (csI (csArow (csP s (g + 11 + 6) (tt k) none) (g + 11 + 1) r) 6 (g + 11) (nI ((f + 1) % 1024))) 9 (g + 11) (nI ((wK w).1.length - 1))) j (g + 11) = _
    rw [cI_other _ _ (Or.inl (by omega)), cI_other _ _ (Or.inl (by omega))]
    rfl
  have cell' : ∀ i, cP (csA (csI (csI (csArow (csP s (g + 11 + 6) (tt k) none) (g + 11 + 1) r) 6 (g + 11) (nI ((f + 1) % 1024))) 9 (g + 11) (nI ((wK w).1.length - 1))) (g + 11 + 2) ((wK w).1.length - 1) (nI (tt k))) (g + 17) i = if i = tt k then none else cP s (g + 17) i := fun i => by
    show cP (csP s (g + 17) (tt k) none) (g + 17) i = _
    rw [cP_at]
  have rm := h5.fr (s' := csA (csI (csI (csArow (csP s (g + 11 + 6) (tt k) none) (g + 11 + 1) r) 6 (g + 11) (nI ((f + 1) % 1024))) 9 (g + 11) (nI ((wK w).1.length - 1))) (g + 11 + 2) ((wK w).1.length - 1) (nI (tt k))) rfl rfl rfl rfl (fun n _ => by
    show cP (csP s (g + 17) (tt k) none) (nd g n + 2) = _
    exact cP_other _ _ _ (by unfold nd; omega))
  have nn : cn (csA (csI (csI (csArow (csP s (g + 11 + 6) (tt k) none) (g + 11 + 1) r) 6 (g + 11) (nI ((f + 1) % 1024))) 9 (g + 11) (nI ((wK w).1.length - 1))) (g + 11 + 2) ((wK w).1.length - 1) (nI (tt k))) = cn s := rfl
  generalize csA (csI (csI (csArow (csP s (g + 11 + 6) (tt k) none) (g + 11 + 1) r) 6 (g + 11) (nI ((f + 1) % 1024))) 9 (g + 11) (nI ((wK w).1.length - 1))) (g + 11 + 2) ((wK w).1.length - 1) (nI (tt k)) = s' at st sk hp xf i10 cell' rm nn ⊢
  refine ⟨h1, st, by rw [nn]; exact h3, hp, rm, h6.sk xf ?_⟩
  refine ⟨⟨_, _, sk, fun i hi => ?_, fun j hj hj2 => ?_⟩, by rw [i10 11 (by decide)]; exact q4, by rw [i10 12 (by decide)]; exact q5, by rw [i10 10 (by decide)]; exact q6⟩
  · have hi' : i < (wK w).1.length - 1 := by
      have : i < ((wK w).1.eraseIdx k).length := hi
      rw [List.length_eraseIdx, if_pos hk] at this
      exact this
    show ct (if i < k then ld i else ld (i + 1)) = (fg ((wK w).1.eraseIdx k) i).2.2.2
    rw [fg_e]
    by_cases c : i < k
    · rw [if_pos c, if_pos c]
      exact q2 i (by omega)
    · rw [if_neg c, if_neg c]
      exact q2 (i + 1) (by omega)
  · have hj' : (wK w).1.length - 1 ≤ j := by
      have : ((wK w).1.eraseIdx k).length ≤ j := hj
      rw [List.length_eraseIdx, if_pos hk] at this
      exact this
    have tk : tkS tt (wK w).1.length k j = if j + 1 = (wK w).1.length then tt k else tt j := by
      unfold tkS
      rw [if_neg (by omega), if_neg (by omega)]
    rw [cell', tk]
    by_cases c : j + 1 = (wK w).1.length
    · rw [if_pos c, if_pos rfl]
    · rw [if_neg c]
      by_cases d : tt j = tt k
      · rw [if_pos d]
      · rw [if_neg d]
        exact q3 j (by omega) hj2
end
end
