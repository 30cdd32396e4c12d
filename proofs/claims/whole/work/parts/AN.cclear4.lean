section
/-! THE CLASS'S SHELF: decided, snapshots, proofs, pool are let go -/
theorem cnt_u {A A' : Nat → Prop} {T j : Nat} (hj : j < T) (h : ∀ k, k < T → k ≠ j → (A k ↔ A' k)) (h1 : A j) (h2 : ¬ A' j) : cnt A T = cnt A' T + 1 := by
  induction T with
  | zero => omega
  | succ T ih =>
    unfold cnt
    by_cases c : j = T
    · subst c
      have e : cnt A j = cnt A' j := cnt_cg j (fun k hk => h k (by omega) (by omega))
      rw [cif_pos h1, cif_neg h2, e]
    · have e := ih (by omega) (fun k hk hk2 => h k (by omega) hk2)
      have q := h T (by omega) (fun z => c z.symm)
      by_cases d : A T
      · rw [cif_pos d, cif_pos (q.1 d), e]
      · rw [cif_neg d, cif_neg (fun z => d (q.2 z)), e]
theorem cnt_0 {A : Nat → Prop} {T : Nat} (h : cnt A T = 0) : ∀ k, k < T → ¬ A k := by
  induction T with
  | zero => intro k hk; omega
  | succ T ih =>
    intro k hk hA
    unfold cnt at h
    by_cases d : A T
    · rw [cif_pos d] at h
      omega
    · rw [cif_neg d] at h
      by_cases c : k = T
      · exact d (by rw [← c]; exact hA)
      · exact ih (by omega) k (by omega) hA
theorem cnt_n {A : Nat → Prop} {T : Nat} (h : ∀ k, k < T → ¬ A k) : cnt A T = 0 := by
  induction T with
  | zero => rfl
  | succ T ih =>
    unfold cnt
    rw [cif_neg (h T (by omega)), ih (fun k hk => h k (by omega))]
theorem cnt_b {A : Nat → Prop} {T : Nat} : cnt A T ≤ T := by
  induction T with
  | zero => exact Nat.le_refl _
  | succ T ih =>
    unfold cnt
    by_cases d : A T
    · rw [cif_pos d]
      omega
    · rw [cif_neg d]
      omega
/-- all but the node -/
def CEb (F g H T : Nat) (s : cS) (ct : Nat → List Nat) (w : Wd) (pe : Nat → Int) (n : Nat) : Prop := kFx F g H T s ∧ kSk g s ct (wK w) (wT w) ∧ kTp g s (wL w) ∧ kLa g s ∧ kIn g H s ∧ ∀ m, m < H → m ≠ n → CN g H T s ct m (wN w m) (wY w m) (wP w m) (wX w m) (pe m)
def CRb (F g H T : Nat) (s : cS) (ct : Nat → List Nat) (hd : List Nat) (w : Wd) (pe : Nat → Int) (n : Nat) : Prop := cst F H T ∧ St 0 g H T s ∧ nd g H ≤ cn s ∧ HP g H T s ct hd ∧ RM g H (g + 400 + rb pe) (90000 + 7000 * rb pe) s ∧ CEb F g H T s ct w pe n
section
variable {F N g H T n : Nat} {s s' : cS} {ct : Nat → List Nat} {hd : List Nat} {w : Wd} {pe : Nat → Int} {v : Nat → Int} {y y' z : Nat → Nat → Option (List Nat)} {p p' : List (List Nat)} {x : Nat → Nat → Nat} {pn : Int} {a e i : Nat}
theorem CRz.bb (h : CRz F g H T s ct hd w pe n v y p x pn z) : CRb F g H T s ct hd w pe n := by
  obtain ⟨h1, h2, h3, h4, h5, e1, e2, e3, e4, e5, e6, e7⟩ := h
  exact ⟨h1, h2, h3, h4, h5, e1, e2, e3, e4, e5, e6⟩
theorem CRb.zz (h : CRb F g H T s ct hd w pe n) (c : CNz g H T s ct n v y p x pn z) : CRz F g H T s ct hd w pe n v y p x pn z := by
  obtain ⟨h1, h2, h3, h4, h5, e1, e2, e3, e4, e5, e6⟩ := h
  exact ⟨h1, h2, h3, h4, h5, e1, e2, e3, e4, e5, e6, c⟩
theorem CEb.one (h : CEb F g H T s ct w pe n) (hn : n < H) (hf : xfr (ndP g n) g H s s') (hi : cP s' (nd g n + 2) = cP s (nd g n + 2)) : CEb F g H T s' ct w pe n := by
  obtain ⟨h1, h2, h3, h4, h5, h6⟩ := h
  have hx := fun m (hm : m < H) (c : m ≠ n) => hf.nfx hm (fun o ho _ => (show ¬ ndP g n (nd g m + o) by unfold ndP nd; omega))
  obtain ⟨f1, f2, f3, f4⟩ := hf
  have l : ∀ o, o ≤ 30 → g + o < nd g H ∧ ¬ ndP g n (g + o) := fun o ho => by unfold ndP nd; omega
  have I : ∀ o k, o ≤ 30 → cI s' k (g + o) = cI s k (g + o) := fun o k ho => (f3 _ (l o ho).1 (l o ho).2).1 k
  have A : ∀ o, o ≤ 30 → cA s' (g + o) = cA s (g + o) := fun o ho => (f3 _ (l o ho).1 (l o ho).2).2.2.1
  have P : ∀ o, o ≤ 30 → cP s' (g + o) = cP s (g + o) := fun o ho => (f3 _ (l o ho).1 (l o ho).2).2.2.2.2
  refine ⟨?_, ?_, ?_, ?_, ?_, fun m hm c => (h6 m hm c).fx (hx m hm c)⟩
  · unfold kFx
    rw [I 8 _ (by decide), I 8 _ (by decide), I 8 _ (by decide), I 8 _ (by decide), I 9 _ (by decide)]
    exact h1
  · unfold kSk cSkT
    rw [I 11 _ (by decide), I 11 _ (by decide), I 11 _ (by decide), I 11 _ (by decide), I 11 _ (by decide), A 12 (by decide), A 13 (by decide), A 14 (by decide), A 15 (by decide), A 16 (by decide), P 17 (by decide)]
    exact h2
  · unfold kTp
    have e0 : cI s' 3 g = cI s 3 g := I 0 3 (by decide)
    rw [e0, A 1 (by decide)]
    exact h3
  · unfold kLa bkC rtC
    have a1 : cA s' (g + 23 + 1) = cA s (g + 23 + 1) := A 24 (by decide)
    have a2 : cA s' (g + 23 + 2) = cA s (g + 23 + 2) := A 25 (by decide)
    have a3 : cA s' (g + 23 + 3) = cA s (g + 23 + 3) := A 26 (by decide)
    rw [a1, a2, a3, I 23 _ (by decide), I 23 _ (by decide)]
    exact h4
  · refine h5.fr (fun m hm => ?_)
    by_cases c : m = n
    · rw [c]
      exact hi
    · exact (f3 _ (by unfold nd; omega) (by unfold ndP nd; omega)).2.2.2.2
theorem CEb.mf (h : CEb F g H T s ct w pe n) (hf : mfr g H s s') : CEb F g H T s' ct w pe n := by
  obtain ⟨h1, h2, h3, h4, h5, h6⟩ := h
  have hx := fun m (hm : m < H) => hf.nfx (n := m) hm
  obtain ⟨f1, f2, f3, f4, f5, f6⟩ := hf
  have l : ∀ o, o ≤ 30 → g + o < nd g H := fun o ho => by unfold nd; omega
  refine ⟨?_, ?_, ?_, ?_, ?_, fun m hm c => (h6 m hm c).fx (hx m hm)⟩
  · unfold kFx
    rw [f3 _ _ (l 8 (by decide)), f3 _ _ (l 8 (by decide)), f3 _ _ (l 8 (by decide)), f3 _ _ (l 8 (by decide)), f3 _ _ (l 9 (by decide))]
    exact h1
  · unfold kSk cSkT
    rw [f3 _ _ (l 11 (by decide)), f3 _ _ (l 11 (by decide)), f3 _ _ (l 11 (by decide)), f3 _ _ (l 11 (by decide)), f3 _ _ (l 11 (by decide)), (f5 _ (l 12 (by decide))).1, (f5 _ (l 13 (by decide))).1, (f5 _ (l 14 (by decide))).1, (f5 _ (l 15 (by decide))).1, (f5 _ (l 16 (by decide))).1, (f5 _ (l 17 (by decide))).2.2]
    exact h2
  · unfold kTp
    have e0 : cI s' 3 g = cI s 3 g := f3 3 g (l 0 (by decide))
    rw [e0, (f5 _ (l 1 (by decide))).1]
    exact h3
  · unfold kLa bkC rtC
    rw [(f5 _ (l 24 (by decide))).1, (f5 _ (l 25 (by decide))).1, (f5 _ (l 26 (by decide))).1, f3 _ _ (l 23 (by decide)), f3 _ _ (l 23 (by decide))]
    exact h4
  · intro n i n' i' r a1 a2 a3 a4 a5 a6
    rw [(f5 _ (by unfold nd; omega)).2.2] at a5 a6
    exact h5 n i n' i' r a1 a2 a3 a4 a5 a6
theorem k24_ (h2 : St 0 g H T s) (hn : n < H) (he : e < 6) : cK s (nd g n + plO e) = 24 := by
  rcases (show e = 0 ∨ e = 1 ∨ e = 2 ∨ e = 3 ∨ e = 4 ∨ e = 5 by omega) with rfl | rfl | rfl | rfl | rfl | rfl
  · exact (h2.2.1 6 2 (nd g n + 14) (o53 (isO5 hn)) (by omega) _ rfl).2.1
  · exact (h2.2.1 6 4 (nd g n + 14) (o53 (isO5 hn)) (by omega) _ rfl).2.1
  · exact (h2.2.1 6 6 (nd g n + 14) (o53 (isO5 hn)) (by omega) _ rfl).2.1
  · exact (h2.2.1 6 8 (nd g n + 14) (o53 (isO5 hn)) (by omega) _ rfl).2.1
  · exact (h2.2.1 6 9 (nd g n + 14) (o53 (isO5 hn)) (by omega) _ rfl).2.1
  · exact (h2.2.1 5 7 (nd g n) (isO5 hn) (by omega) _ rfl).2.1
theorem CRb.mv (h : CRb F g H T s ct hd w pe n) (hn : n < H) (he : e < 6) (hi : i < plN T e) (hx : cP s (nd g n + plO e) i = some a) : CRb F g H T (csP s (nd g n + plO e) i none) ct (a :: hd) w pe n := by
  obtain ⟨h1, h2, h3, h4, h5, h6⟩ := h
  have b := plO_b e
  exact ⟨h1, h2.P24 (k24_ h2 hn he) tK_none, h3, h4.mvR hn he hi hx, h5.fr rfl rfl rfl rfl (fun m _ => cP_other _ _ _ (by unfold nd; omega)), h6.one hn (xfr_P.mono (fun b' _ z => by unfold ndP; omega)) (cP_other _ _ _ (by omega))⟩
theorem CRb.no (h : CRb F g H T s ct hd w pe n) (hn : n < H) (he : e < 6) (hx : cP s (nd g n + plO e) i = none) : CRb F g H T (csP s (nd g n + plO e) i none) ct hd w pe n := by
  have es : csP s (nd g n + plO e) i none = s := by
    unfold csP csProw
    have : up1 s.2.2.2.2.2.2.1 (nd g n + plO e) (va_up (cP s (nd g n + plO e)) i none) = s.2.2.2.2.2.2.1 := by
      funext b
      unfold up1
      by_cases c : b = nd g n + plO e
      · rw [if_pos c, c]
        funext j
        unfold va_up
        by_cases d : j = i
        · rw [if_pos d, d]
          exact hx.symm
        · rw [if_neg d]
          rfl
      · rw [if_neg c]
    rw [this]
  rw [es]
  exact h
theorem CRb.dp (h : CRb F g H T s ct hd w pe n) (ha : 1 ≤ us g H T s hd a) (hl : hd.length ≤ 40) : p_X9_drop N g H T s (g + 11) (some a) ∧ k_X9_drop N g H T s (g + 11) (some a) = cDrp s (g + 11) a (us g H T s hd a) := by
  obtain ⟨h1, h2, h3, h4, h5, h6⟩ := h
  have cb := h1.bb
  have k5 := h4.k ha
  have ub := us_le (g := g) (s := s) (a := a) (hd := hd) cb.1 cb.2.1 (by omega)
  have L := (h4.2.2.1 a k5).2.1
  exact drop_c (N := N) (g := g) (H := H) (T := T) (q := g + 11) (h4.u k5) ha (by omega) (by omega)
theorem CRb.dr (h : CRb F g H T s ct (a :: hd) w pe n) (hl : hd.length ≤ 35) : CRb F g H T (cDrp s (g + 11) a (us g H T s (a :: hd) a)) ct hd w pe n := by
  obtain ⟨d1, d2⟩ := h.dp (N := 0) us_self (by show hd.length + 1 ≤ 40; omega)
  obtain ⟨h1, h2, h3, h4, h5, h6⟩ := h
  have k5 := h4.k (us_self (g := g) (H := H) (T := T) (s := s) (a := a) (hd := hd))
  have st := (kpc_X9_drop h2 oS7 (tK_some k5) d1).1
  obtain ⟨o1, o2, o3, o4, o5, o6, o7⟩ := cDrp_o (s := s) (g := g) (a := a) (u := us g H T s (a :: hd) a)
  rw [d2] at st
  exact ⟨h1, st, by rw [o3]; exact h3, h4.dr rfl, h5.fr o1 o2 o3 o4 (fun n _ => by rw [o5]), h6.mf (cDrp_m (h4.n k5))⟩
/-- a place lets go, whatever it holds -/
theorem CRb.lt_ (h : CRb F g H T s ct hd w pe n) (hn : n < H) (hl : hd.length ≤ 35) (he : e < 6) (hi : i < plN T e) : p_X9_drop N g H T s (g + 11) (cP s (nd g n + plO e) i) ∧ CRb F g H T (csP (k_X9_drop N g H T s (g + 11) (cP s (nd g n + plO e) i)) (nd g n + plO e) i none) ct hd w pe n ∧ mfr g H s (k_X9_drop N g H T s (g + 11) (cP s (nd g n + plO e) i)) ∧ cP (k_X9_drop N g H T s (g + 11) (cP s (nd g n + plO e) i)) = cP s ∧ cA (k_X9_drop N g H T s (g + 11) (cP s (nd g n + plO e) i)) = cA s := by
  cases hx : cP s (nd g n + plO e) i with
  | none =>
    have e0 : p_X9_drop N g H T s (g + 11) none ∧ k_X9_drop N g H T s (g + 11) none = s := by
      show wp (KO_X9_drop_0 N g H T (g + 11) none s) (KF_X9_drop_0 N g H T (g + 11) none s) (fun z => z = s)
      unfold KO_X9_drop_0 KF_X9_drop_0
      exact wp_pos rfl (wp_fin trivial rfl)
    rw [e0.2]
    exact ⟨e0.1, h.no hn he hx, mfr.refl, rfl, rfl⟩
  | some a =>
    have ha : 1 ≤ us g H T s hd a := by
      have := cnA_hr (g := g) (H := H) (T := T) hn he hi hx
      unfold us
      omega
    obtain ⟨d1, d2⟩ := h.dp (N := N) ha (by omega)
    have m := h.mv hn he hi hx
    have eu : us g H T (csP s (nd g n + plO e) i none) (a :: hd) a = us g H T s hd a := by
      rw [us_cons, ind_s]
      unfold us
      have e1 := cnA_row (g := g) (H := H) (T := T) (s := s) (a := a) (x := none) hn he hi
      rw [hx, ind_none, ind_s] at e1
      omega
    have q := m.dr hl
    rw [eu, cDrp_P] at q
    rw [d2]
    obtain ⟨o1, o2, o3, o4, o5, o6, o7⟩ := cDrp_o (s := s) (g := g) (a := a) (u := us g H T s hd a)
    exact ⟨d1, q, cDrp_m (h.2.2.2.1.n (h.2.2.2.1.k ha)), o5, o6⟩
theorem CRb.set (h : CRb F g H T s ct hd w pe n) (hn : n < H) (hf : cfr (ndP g n) s s') (st : St 0 g H T s') : CRb F g H T s' ct hd w pe n := by
  obtain ⟨h1, h2, h3, h4, h5, h6⟩ := h
  have lP : ∀ a, ndP g n a → a < nd g H := fun a ha => by unfold ndP nd at *; omega
  obtain ⟨f1, f2, f3, f4, f5, f6, f7, f8, f9⟩ := id hf
  exact ⟨h1, st, by rw [f3]; exact h3, h4.cf hf lP, h5.fr f1 f2 f3 f4 (fun _ _ => by rw [f6]), h6.one hn (hf.xf lP) (by rw [f6])⟩
/-- the shelf's ends change: decided, snapshots, proofs, pool -/
theorem CNz.row (h : CNz g H T s ct n v y p x pn z) (hn : n < H) (hf : cn s ≤ cn s') (hK : ∀ b, b < cn s → cK s' b = cK s b ∧ cL s' b = cL s b) (hA : ∀ b, b < nd g H → cA s' b = cA s b) (hX : ∀ r, nd g H ≤ r → r < cn s → cK s r = 20 → cK s (r - 2) ≠ 5 → cA s' r = cA s r) (hJ : ∀ b, b < nd g H → cJ s' b = cJ s b) (hR : ∀ k, k = 14 ∨ k = 15 → cR s' k (nd g n) = cR s k (nd g n)) (hI : ∀ k o, o < 24 → (o ≠ 14 ∨ (k ≠ 11 ∧ k ≠ 12 ∧ k ≠ 13)) → cI s' k (nd g n + o) = cI s k (nd g n + o)) (hP : ∀ o, o < 24 → o ≠ 20 → o ≠ 22 → o ≠ 23 → cP s' (nd g n + o) = cP s (nd g n + o)) (hD : qD s' ct (nd g n) T v (y 9 0) (y' 6)) (hS : qS_ s' ct (nd g n) T y') (hp : qP s' (nd g n) p') (hy : ∀ f, f ≠ 2 → f ≠ 3 → f ≠ 6 → y' f = y f) : CNz g H T s' ct n v y' p' x pn z := by
  obtain ⟨c1, c2, c3, c4, c5, c6, c7, c8, c9, c10, c11, c12, c13, c14⟩ := h
  have l : ∀ o, o < 24 → nd g n + o < nd g H := fun o ho => by unfold nd; omega
  have i0 : ∀ k, cI s' k (nd g n) = cI s k (nd g n) := fun k => hI k 0 (by decide) (Or.inl (by decide))
  have A : ∀ o, o < 24 → cA s' (nd g n + o) = cA s (nd g n + o) := fun o ho => hA _ (l o ho)
  have y9 := hy 9 (by decide) (by decide) (by decide)
  have y7 := hy 7 (by decide) (by decide) (by decide)
  refine ⟨?_, ?_, ?_, ?_, ?_, ?_, ?_, by rw [y9]; exact hD, hS, hp, ?_, ?_, ?_, ?_⟩
  · unfold qN
    rw [i0, i0, i0, i0, i0, i0, i0, i0, i0, i0]
    exact c1
  · rw [A 12 (by decide)]
    exact c2
  · unfold qL
    rw [hI 5 1 (by decide) (Or.inl (by decide)), hI 6 1 (by decide) (Or.inl (by decide)), hI 7 1 (by decide) (Or.inl (by decide)), hI 8 1 (by decide) (Or.inl (by decide)), hI 9 1 (by decide) (Or.inl (by decide))]
    exact c3
  · intro j hj
    obtain ⟨x1, x2, x3, x4⟩ := c4 j hj
    rw [A 3 (by decide), hP 2 (by decide) (by decide) (by decide) (by decide)]
    refine ⟨x1, x2, x3, fun r hr => ?_⟩
    obtain ⟨y1, y2, y3, y4, y5, y6⟩ := x4 r hr
    refine ⟨y1, by omega, by rw [(hK r y2).1]; exact y3, by rw [(hK r y2).2]; exact y4, by rw [(hK (r - 2) (by omega)).1]; exact y5, ?_⟩
    rw [hX r y1 y2 y3 y5]
    exact y6
  · rw [A 5 (by decide), y7]
    exact c5
  · unfold qB bkC rtC
    have a7 : cA s' (nd g n + 6 + 1) = cA s (nd g n + 6 + 1) := A 7 (by decide)
    have a8 : cA s' (nd g n + 6 + 2) = cA s (nd g n + 6 + 2) := A 8 (by decide)
    have a9 : cA s' (nd g n + 6 + 3) = cA s (nd g n + 6 + 3) := A 9 (by decide)
    rw [y9, a7, a8, a9, A 11 (by decide), hI 2 6 (by decide) (Or.inl (by decide)), hI 5 6 (by decide) (Or.inl (by decide))]
    exact c6
  · unfold qH
    rw [y9, hP 15 (by decide) (by decide) (by decide) (by decide), hP 19 (by decide) (by decide) (by decide) (by decide), A 16 (by decide), A 17 (by decide)]
    exact c7
  · unfold qK
    rw [hy 0 (by decide) (by decide) (by decide), hy 1 (by decide) (by decide) (by decide), hR 14 (Or.inl rfl), hR 15 (Or.inr rfl)]
    refine ⟨c11.1, c11.2.1, fun k a hk ha => ?_⟩
    rw [hR k hk] at ha
    exact c11.2.2 k a hk ha
  · unfold qA
    rw [hP 13 (by decide) (by decide) (by decide) (by decide), y7]
    exact c12
  · rw [hI 1 14 (by decide) (Or.inr (by decide))]
    exact c13
  · rw [A 4 (by decide)]
    exact c14
end
end
