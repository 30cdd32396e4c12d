section
/-! THE CLASS'S NODE IN THE MIDST OF SOMETHING: its pieces apart -/
def CNz (g H T : Nat) (s : cS) (ct : Nat → List Nat) (n : Nat) (v : Nat → Int) (y : Nat → Nat → Option (List Nat)) (p : List (List Nat)) (x : Nat → Nat → Nat) (pe : Int) (z : Nat → Nat → Option (List Nat)) : Prop := qN (cI s) (nd g n) n v pe ∧ qT (cA s (nd g n + 12)) v ∧ qL (cI s) (nd g n) v ∧ qX g H s (nd g n) v x ∧ qC (cA s (nd g n + 5)) v x (y 7) ∧ qB s (nd g n) v (y 9 0) ∧ qH s ct (nd g n) T v (y 9 0) z ∧ qD s ct (nd g n) T v (y 9 0) (y 6) ∧ qS_ s ct (nd g n) T y ∧ qP s (nd g n) p ∧ qK s ct (nd g n) y ∧ qA s ct (nd g n) v (y 7) ∧ cI s 1 (nd g n + 14) = nI T ∧ qZ (cA s (nd g n + 4))
def CEz (F g H T : Nat) (s : cS) (ct : Nat → List Nat) (w : Wd) (pe : Nat → Int) (n : Nat) (v : Nat → Int) (y : Nat → Nat → Option (List Nat)) (p : List (List Nat)) (x : Nat → Nat → Nat) (pn : Int) (z : Nat → Nat → Option (List Nat)) : Prop := kFx F g H T s ∧ kSk g s ct (wK w) (wT w) ∧ kTp g s (wL w) ∧ kLa g s ∧ kIn g H s ∧ (∀ m, m < H → m ≠ n → CN g H T s ct m (wN w m) (wY w m) (wP w m) (wX w m) (pe m)) ∧ CNz g H T s ct n v y p x pn z
def CRz (F g H T : Nat) (s : cS) (ct : Nat → List Nat) (hd : List Nat) (w : Wd) (pe : Nat → Int) (n : Nat) (v : Nat → Int) (y : Nat → Nat → Option (List Nat)) (p : List (List Nat)) (x : Nat → Nat → Nat) (pn : Int) (z : Nat → Nat → Option (List Nat)) : Prop := cst F H T ∧ St 0 g H T s ∧ nd g H ≤ cn s ∧ HP g H T s ct hd ∧ RM g H (g + 400 + rb pe) (90000 + 7000 * rb pe) s ∧ CEz F g H T s ct w pe n v y p x pn z
section
variable {F N g H T n : Nat} {s s' : cS} {ct ct' : Nat → List Nat} {hd hd' : List Nat} {w w' : Wd} {pe pe' : Nat → Int} {v v' : Nat → Int} {y y' z z' : Nat → Nat → Option (List Nat)} {p p' : List (List Nat)} {x x' : Nat → Nat → Nat} {pn pn' : Int} {a : Nat}
theorem CN.z_ (h : CN g H T s ct n v y p x pn) : ∃ z, CNz g H T s ct n v y p x pn z ∧ owZ T n v y z := by
  obtain ⟨c1, c2, c3, c4, c5, c6, ⟨z, c7, c7'⟩, c8⟩ := h
  exact ⟨z, ⟨c1, c2, c3, c4, c5, c6, c7, c8⟩, c7'⟩
theorem CNz.cn_ (h : CNz g H T s ct n v y p x pn z) (o : owZ T n v y z) : CN g H T s ct n v y p x pn := by
  obtain ⟨c1, c2, c3, c4, c5, c6, c7, c8⟩ := h
  exact ⟨c1, c2, c3, c4, c5, c6, ⟨z, c7, o⟩, c8⟩
theorem CR.z_ (h : CR F g H T s ct hd w pe) (hn : n < H) : ∃ z, CRz F g H T s ct hd w pe n (wN w n) (wY w n) (wP w n) (wX w n) (pe n) z ∧ owZ T n (wN w n) (wY w n) z := by
  obtain ⟨h1, h2, h3, h4, h5, e1, e2, e3, e4, e5, e6⟩ := h
  obtain ⟨z, c, o⟩ := (e6 n hn).z_
  exact ⟨z, ⟨h1, h2, h3, h4, h5, e1, e2, e3, e4, e5, fun m hm _ => e6 m hm, c⟩, o⟩
theorem CRz.cr (h : CRz F g H T s ct hd w pe n v y p x pn z) (o : owZ T n v y z) (hw : ∀ m, m ≠ n → wN w' m = wN w m ∧ wY w' m = wY w m ∧ wP w' m = wP w m ∧ wX w' m = wX w m) (hK : wK w' = wK w) (hT : wT w' = wT w) (hL : wL w' = wL w) (hp : ∀ m, m ≠ n → pe' m = pe m) (hn : pe' n = pn) (h1 : wN w' n = v) (h2 : wY w' n = y) (h3 : wP w' n = p) (h4 : wX w' n = x) : CR F g H T s ct hd w' pe' := by
  obtain ⟨c1, c2, c3, c4, c5, e1, e2, e3, e4, e5, e6, e7⟩ := h
  refine ⟨c1, c2, c3, c4, (by rw [rb_eq hp]; exact c5), e1, by rw [hK, hT]; exact e2, by rw [hL]; exact e3, e4, e5, fun m hm => ?_⟩
  by_cases c : m = n
  · rw [c, h1, h2, h3, h4, hn]
    exact e7.cn_ o
  · obtain ⟨a1, a2, a3, a4⟩ := hw m c
    rw [a1, a2, a3, a4, hp m c]
    exact e6 m hm c
theorem CRz.nz (h : CRz F g H T s ct hd w pe n v y p x pn z) : CNz g H T s ct n v y p x pn z := h.2.2.2.2.2.2.2.2.2.2.2
theorem CNz.fx (h : CNz g H T s ct n v y p x pn z) (hf : nfx g H n s s') : CNz g H T s' ct n v y p x pn z := by
  obtain ⟨c1, c2, c3, c4, c5, c6, c7, c8⟩ := h
  obtain ⟨f1, f2, f3, f4, f5, f6, f7⟩ := hf
  obtain ⟨c8, c9, c10, c11, c12, c13, c14⟩ := c8
  have i0 : ∀ k, cI s' k (nd g n) = cI s k (nd g n) := fun k => f3 k 0 (by decide) (by decide)
  refine ⟨?_, ?_, ?_, ?_, ?_, ?_, ?_, ?_, ?_, ?_, ?_, ?_, ?_, ?_⟩
  · unfold qN
    rw [i0, i0, i0, i0, i0, i0, i0, i0, i0, i0]
    exact c1
  · rw [f5 12 (by decide) (by decide)]
    exact c2
  · unfold qL
    rw [f3 5 1 (by decide) (by decide), f3 6 1 (by decide) (by decide), f3 7 1 (by decide) (by decide), f3 8 1 (by decide) (by decide), f3 9 1 (by decide) (by decide)]
    exact c3
  · intro i hi
    obtain ⟨x1, x2, x3, x4⟩ := c4 i hi
    rw [f5 3 (by decide) (by decide), (f6 2 (by decide) (by decide)).2]
    refine ⟨x1, x2, x3, fun r hr => ?_⟩
    obtain ⟨y1, y2, y3, y4, y5, y6⟩ := x4 r hr
    refine ⟨y1, by omega, by rw [(f2 r y2).1]; exact y3, by rw [(f2 r y2).2]; exact y4, by rw [(f2 (r - 2) (by omega)).1]; exact y5, ?_⟩
    rw [f7 i r hi hr y1 y2 y3 y5]
    exact y6
  · rw [f5 5 (by decide) (by decide)]
    exact c5
  · unfold qB bkC rtC
    have a7 : cA s' (nd g n + 6 + 1) = cA s (nd g n + 6 + 1) := f5 7 (by decide) (by decide)
    have a8 : cA s' (nd g n + 6 + 2) = cA s (nd g n + 6 + 2) := f5 8 (by decide) (by decide)
    have a9 : cA s' (nd g n + 6 + 3) = cA s (nd g n + 6 + 3) := f5 9 (by decide) (by decide)
    rw [a7, a8, a9, f5 11 (by decide) (by decide), f3 2 6 (by decide) (by decide), f3 5 6 (by decide) (by decide)]
    exact c6
  · unfold qH
    rw [(f6 15 (by decide) (by decide)).2, (f6 19 (by decide) (by decide)).2, f5 16 (by decide) (by decide), f5 17 (by decide) (by decide)]
    exact c7
  · unfold qD
    rw [(f6 20 (by decide) (by decide)).2, f5 21 (by decide) (by decide), f3 11 14 (by decide) (by decide)]
    exact c8
  · unfold qS_
    rw [(f6 22 (by decide) (by decide)).2, (f6 23 (by decide) (by decide)).2, f3 13 14 (by decide) (by decide)]
    exact c9
  · unfold qP
    rw [(f6 18 (by decide) (by decide)).1, f3 12 14 (by decide) (by decide)]
    exact c10
  · unfold qK
    rw [f4 14 (Or.inl rfl), f4 15 (Or.inr rfl)]
    refine ⟨c11.1, c11.2.1, fun k a hk ha => ?_⟩
    rw [f4 k hk] at ha
    exact c11.2.2 k a hk ha
  · unfold qA
    rw [(f6 13 (by decide) (by decide)).2]
    exact c12
  · rw [f3 1 14 (by decide) (by decide)]
    exact c13
  · rw [f5 4 (by decide) (by decide)]
    exact c14
/-- messages alone are written -/
theorem CEz.mf (h : CEz F g H T s ct w pe n v y p x pn z) (hn : n < H) (hf : mfr g H s s') : CEz F g H T s' ct w pe n v y p x pn z := by
  obtain ⟨h1, h2, h3, h4, h5, h6, h7⟩ := h
  have hx := fun m (hm : m < H) => hf.nfx (n := m) hm
  obtain ⟨f1, f2, f3, f4, f5, f6⟩ := hf
  have l : ∀ o, o ≤ 30 → g + o < nd g H := fun o ho => by unfold nd; omega
  refine ⟨?_, ?_, ?_, ?_, ?_, fun m hm c => (h6 m hm c).fx (hx m hm), h7.fx (hx n hn)⟩
  · unfold kFx
    rw [f3 _ _ (l 8 (by decide)), f3 _ _ (l 8 (by decide)), f3 _ _ (l 8 (by decide)), f3 _ _ (l 8 (by decide)), f3 _ _ (l 9 (by decide))]
    exact h1
  · unfold kSk cSkT
    rw [f3 _ _ (l 11 (by decide)), f3 _ _ (l 11 (by decide)), f3 _ _ (l 11 (by decide)), f3 _ _ (l 11 (by decide)), f3 _ _ (l 11 (by decide)), (f5 _ (l 12 (by decide))).1, (f5 _ (l 13 (by decide))).1, (f5 _ (l 14 (by decide))).1, (f5 _ (l 15 (by decide))).1, (f5 _ (l 16 (by decide))).1, (f5 _ (l 17 (by decide))).2.2]
    exact h2
  · unfold kTp
    have e0 : cI s' 3 g = cI s 3 g := f3 3 g (l 0 (by decide))
    rw [e0, (f5 _ (l 1 (by decide))).1]
    exact h3
  · unfold kLa bkC rtC
    rw [(f5 _ (l 24 (by decide))).1, (f5 _ (l 25 (by decide))).1, (f5 _ (l 26 (by decide))).1, f3 _ _ (l 23 (by decide)), f3 _ _ (l 23 (by decide))]
    exact h4
  · intro n i n' i' r a1 a2 a3 a4 a5 a6
    rw [(f5 _ (by unfold nd; omega)).2.2] at a5 a6
    exact h5 n i n' i' r a1 a2 a3 a4 a5 a6
/-- the node alone is written -/
theorem CEz.one (h : CEz F g H T s ct w pe n v y p x pn z) (hn : n < H) (hf : xfr (ndP g n) g H s s') (hi : cP s' (nd g n + 2) = cP s (nd g n + 2)) (hc : CNz g H T s' ct n v' y' p' x' pn' z') : CEz F g H T s' ct w pe n v' y' p' x' pn' z' := by
  obtain ⟨h1, h2, h3, h4, h5, h6, h7⟩ := h
  have hx := fun m (hm : m < H) (c : m ≠ n) => hf.nfx hm (fun o ho _ => (show ¬ ndP g n (nd g m + o) by unfold ndP nd; omega))
  obtain ⟨f1, f2, f3, f4⟩ := hf
  have l : ∀ o, o ≤ 30 → g + o < nd g H ∧ ¬ ndP g n (g + o) := fun o ho => by unfold ndP nd; omega
  have I : ∀ o k, o ≤ 30 → cI s' k (g + o) = cI s k (g + o) := fun o k ho => (f3 _ (l o ho).1 (l o ho).2).1 k
  have A : ∀ o, o ≤ 30 → cA s' (g + o) = cA s (g + o) := fun o ho => (f3 _ (l o ho).1 (l o ho).2).2.2.1
  have P : ∀ o, o ≤ 30 → cP s' (g + o) = cP s (g + o) := fun o ho => (f3 _ (l o ho).1 (l o ho).2).2.2.2.2
  refine ⟨?_, ?_, ?_, ?_, ?_, fun m hm c => (h6 m hm c).fx (hx m hm c), hc⟩
  · unfold kFx
    rw [I 8 _ (by decide), I 8 _ (by decide), I 8 _ (by decide), I 8 _ (by decide), I 9 _ (by decide)]
    exact h1
  · unfold kSk cSkT
    rw [I 11 _ (by decide), I 11 _ (by decide), I 11 _ (by decide), I 11 _ (by decide), I 11 _ (by decide), A 12 (by decide), A 13 (by decide), A 14 (by decide), A 15 (by decide), A 16 (by decide), P 17 (by decide)]
    exact h2
  · unfold kTp
    have e0 : cI s' 3 g = cI s 3 g := I 0 3 (by decide)
    rw [e0, A 1 (by decide)]
    exact h3
  · unfold kLa bkC rtC
    have a1 : cA s' (g + 23 + 1) = cA s (g + 23 + 1) := A 24 (by decide)
    have a2 : cA s' (g + 23 + 2) = cA s (g + 23 + 2) := A 25 (by decide)
    have a3 : cA s' (g + 23 + 3) = cA s (g + 23 + 3) := A 26 (by decide)
    rw [a1, a2, a3, I 23 _ (by decide), I 23 _ (by decide)]
    exact h4
  · refine h5.fr (fun m hm => ?_)
    by_cases c : m = n
    · rw [c]
      exact hi
    · exact (f3 _ (by unfold nd; omega) (by unfold ndP nd; omega)).2.2.2.2
theorem drop_Z (h : CRz F g H T s ct (a :: hd) w pe n v y p x pn z) (hn : n < H) (hl : hd.length ≤ 30) : wp (p_X9_drop N g H T s (g + 11) (some a)) (k_X9_drop N g H T s (g + 11) (some a)) (fun s' => CRz F g H T s' ct hd w pe n v y p x pn z ∧ (∀ x, nd g H ≤ x → cI s' 4 x = cI s 4 x) ∧ cP s' = cP s ∧ (∀ k b, (k = 14 ∨ k = 15) → cR s' k b = cR s k b) ∧ cA s' = cA s ∧ (∀ k b, b < nd g H → cI s' k b = cI s k b)) := by
  obtain ⟨h1, h2, h3, h4, h5, h6⟩ := h
  have cb := h1.bb
  have u1 : 1 ≤ us g H T s (a :: hd) a := us_self
  have k5 := h4.k u1
  have l := h4.n k5
  have ub := us_le (g := g) (s := s) (a := a) (hd := a :: hd) cb.1 cb.2.1 (by show hd.length + 1 ≤ 60; omega)
  have L := (h4.2.2.1 a k5).2.1
  obtain ⟨d1, d2⟩ := drop_c (N := N) (g := g) (H := H) (T := T) (q := g + 11) (h4.u k5) u1 (by omega) (by omega)
  have st := (kpc_X9_drop h2 oS7 (tK_some k5) d1).1
  obtain ⟨o1, o2, o3, o4, o5, o6, o7⟩ := cDrp_o (s := s) (g := g) (a := a) (u := us g H T s (a :: hd) a)
  refine wp_fin d1 ?_
  have fk := frF_k s a
  rw [d2] at st ⊢
  refine ⟨⟨h1, st, by rw [o3]; exact h3, h4.dr rfl, h5.fr o1 o2 o3 o4 (fun n _ => by rw [o5]), h6.mf hn (cDrp_m l)⟩, fun x _ => ?_, o5, fun k b hk => ?_, o6, fun k b hb => (cDrp_m l).2.2.1 k b hb⟩
  · unfold cDrp
    split
    · show cI (csI s 3 a (nI 0)) 4 x = _
      exact cI_other _ _ (Or.inl (by decide))
    · exact cI_other _ _ (Or.inl (by decide))
  · unfold cDrp
    split
    · rw [cR_ne _ _ (Or.inl (by omega)), cR_ne _ _ (Or.inl (by omega))]
      rfl
    · rfl
/-- numbers and rows of the node are written -/
theorem CRz.set (h : CRz F g H T s ct hd w pe n v y p x pn z) (hn : n < H) (hf : cfr (ndP g n) s s') (st : St 0 g H T s') (hc : CNz g H T s' ct n v' y' p' x' pn' z') : CRz F g H T s' ct hd w pe n v' y' p' x' pn' z' := by
  obtain ⟨h1, h2, h3, h4, h5, h6⟩ := h
  have lP : ∀ a, ndP g n a → a < nd g H := fun a ha => by unfold ndP nd at *; omega
  obtain ⟨f1, f2, f3, f4, f5, f6, f7, f8, f9⟩ := id hf
  exact ⟨h1, st, by rw [f3]; exact h3, h4.cf hf lP, h5.fr f1 f2 f3 f4 (fun _ _ => by rw [f6]), h6.one hn (hf.xf lP) (by rw [f6]) hc⟩
theorem CRz.I {k o : Nat} {x0 : Int32} (h : CRz F g H T s ct hd w pe n v y p x pn z) (hn : n < H) (ho : o < 24) (hc : CNz g H T (csI s k (nd g n + o) x0) ct n v' y' p' x' pn' z') : CRz F g H T (csI s k (nd g n + o) x0) ct hd w pe n v' y' p' x' pn' z' := h.set hn ((cfr_I _ _ _ _).mono (fun b z => by unfold ndP; omega)) (h.2.1.I _ _ _) hc
/-- from a place of the node to a hand, and back -/
theorem CRz.mv {e i : Nat} (h : CRz F g H T s ct hd w pe n v y p x pn z) (hn : n < H) (he : e < 6) (hi : i < plN T e) (hx : cP s (nd g n + plO e) i = some a) (hc : CNz g H T (csP s (nd g n + plO e) i none) ct n v' y' p' x' pn' z') : CRz F g H T (csP s (nd g n + plO e) i none) ct (a :: hd) w pe n v' y' p' x' pn' z' := by
  obtain ⟨h1, h2, h3, h4, h5, h6⟩ := h
  have b := plO_b e
  have k24 : cK s (nd g n + plO e) = 24 := by
    rcases (show e = 0 ∨ e = 1 ∨ e = 2 ∨ e = 3 ∨ e = 4 ∨ e = 5 by omega) with rfl | rfl | rfl | rfl | rfl | rfl
    · exact (h2.2.1 6 2 (nd g n + 14) (o53 (isO5 hn)) (by omega) _ rfl).2.1
    · exact (h2.2.1 6 4 (nd g n + 14) (o53 (isO5 hn)) (by omega) _ rfl).2.1
    · exact (h2.2.1 6 6 (nd g n + 14) (o53 (isO5 hn)) (by omega) _ rfl).2.1
    · exact (h2.2.1 6 8 (nd g n + 14) (o53 (isO5 hn)) (by omega) _ rfl).2.1
    · exact (h2.2.1 6 9 (nd g n + 14) (o53 (isO5 hn)) (by omega) _ rfl).2.1
    · exact (h2.2.1 5 7 (nd g n) (isO5 hn) (by omega) _ rfl).2.1
  exact ⟨h1, h2.P24 k24 tK_none, h3, h4.mvR hn he hi hx, h5.fr rfl rfl rfl rfl (fun m _ => cP_other _ _ _ (by unfold nd; omega)), h6.one hn (xfr_P.mono (fun b' _ z => by unfold ndP; omega)) (cP_other _ _ _ (by omega)) hc⟩
theorem CRz.pt {e i : Nat} (h : CRz F g H T s ct (a :: hd) w pe n v y p x pn z) (hn : n < H) (he : e < 6) (hi : i < plN T e) (hx : cP s (nd g n + plO e) i = none) (q1 : (e = 1 ∨ e = 3 ∨ e = 4) → (ct a).length ≤ 128) (q2 : e ≤ 2 → cI s 4 a = nI 1) (hc : CNz g H T (csP s (nd g n + plO e) i (some a)) ct n v' y' p' x' pn' z') : CRz F g H T (csP s (nd g n + plO e) i (some a)) ct hd w pe n v' y' p' x' pn' z' := by
  obtain ⟨h1, h2, h3, h4, h5, h6⟩ := h
  have b := plO_b e
  have k5 := h4.k (us_self (g := g) (H := H) (T := T) (s := s) (a := a) (hd := hd))
  have k24 : cK s (nd g n + plO e) = 24 := by
    rcases (show e = 0 ∨ e = 1 ∨ e = 2 ∨ e = 3 ∨ e = 4 ∨ e = 5 by omega) with rfl | rfl | rfl | rfl | rfl | rfl
    · exact (h2.2.1 6 2 (nd g n + 14) (o53 (isO5 hn)) (by omega) _ rfl).2.1
    · exact (h2.2.1 6 4 (nd g n + 14) (o53 (isO5 hn)) (by omega) _ rfl).2.1
    · exact (h2.2.1 6 6 (nd g n + 14) (o53 (isO5 hn)) (by omega) _ rfl).2.1
    · exact (h2.2.1 6 8 (nd g n + 14) (o53 (isO5 hn)) (by omega) _ rfl).2.1
    · exact (h2.2.1 6 9 (nd g n + 14) (o53 (isO5 hn)) (by omega) _ rfl).2.1
    · exact (h2.2.1 5 7 (nd g n) (isO5 hn) (by omega) _ rfl).2.1
  exact ⟨h1, h2.P24 k24 (tK_some k5), h3, h4.ptR hn he hi hx q1 q2, h5.fr rfl rfl rfl rfl (fun m _ => cP_other _ _ _ (by unfold nd; omega)), h6.one hn (xfr_P.mono (fun b' _ z => by unfold ndP; omega)) (cP_other _ _ _ (by omega)) hc⟩
theorem CRz.mvf {k : Nat} (h : CRz F g H T s ct hd w pe n v y p x pn z) (hn : n < H) (hk : k = 14 ∨ k = 15) (hx : cR s k (nd g n) = some a) (st : St 0 g H T (csR s k (nd g n) none)) (hc : CNz g H T (csR s k (nd g n) none) ct n v' y' p' x' pn' z') : CRz F g H T (csR s k (nd g n) none) ct (a :: hd) w pe n v' y' p' x' pn' z' := by
  obtain ⟨h1, h2, h3, h4, h5, h6⟩ := h
  exact ⟨h1, st, h3, h4.mvF hn hk hx, h5.fr rfl rfl rfl rfl (fun m _ => rfl), h6.one hn (xfr_R.mono (fun b' _ z => by unfold ndP; omega)) rfl hc⟩
theorem CRz.ptf {k : Nat} (h : CRz F g H T s ct (a :: hd) w pe n v y p x pn z) (hn : n < H) (hk : k = 14 ∨ k = 15) (hx : cR s k (nd g n) = none) (q2 : cI s 4 a = nI 1) (st : St 0 g H T (csR s k (nd g n) (some a))) (hc : CNz g H T (csR s k (nd g n) (some a)) ct n v' y' p' x' pn' z') : CRz F g H T (csR s k (nd g n) (some a)) ct hd w pe n v' y' p' x' pn' z' := by
  obtain ⟨h1, h2, h3, h4, h5, h6⟩ := h
  exact ⟨h1, st, h3, h4.ptF hn hk hx q2, h5.fr rfl rfl rfl rfl (fun m _ => rfl), h6.one hn (xfr_R.mono (fun b' _ z => by unfold ndP; omega)) rfl hc⟩
theorem CRz.up (h : CRz F g H T s ct hd w pe n v y p x pn z) (hn : n < H) (ha : 1 ≤ us g H T s hd a) : CRz F g H T (csI s 3 a (cI s 3 a + nI 1)) ct (a :: hd) w pe n v y p x pn z := by
  obtain ⟨h1, h2, h3, h4, h5, h6⟩ := h
  exact ⟨h1, h2.I _ _ _, h3, h4.up ha, h5.fr rfl rfl rfl rfl (fun _ _ => rfl), h6.mf hn (mfr_I (h4.n (h4.k ha)))⟩
theorem CRz.ms (h : CRz F g H T s ct hd w pe n v y p x pn z) {a : Nat} (ha : 1 ≤ us g H T s hd a) : mS s a (ct a) := (h.2.2.2.1.m ha).1
end
end
