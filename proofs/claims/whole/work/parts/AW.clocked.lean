section
/-! THE CLASS'S NODE: LOCKED AND VALID -/
def knV (v : Nat → Int) (k : Nat) (r : Int) : Nat → Int := fun j => if j = k - 10 then r else v j
def knY (y : Nat → Nat → Option (List Nat)) (k : Nat) (o : Option (List Nat)) : Nat → Nat → Option (List Nat) := fun f i => if f = k - 14 ∧ i = 0 then o else y f i
section
variable {F N g H T n : Nat} {s s' s1 s2 : cS} {ct ct' : Nat → List Nat} {hd : List Nat} {w w' : Wd} {pe : Nat → Int} {a k : Nat} {v v' : Nat → Int} {y y' : Nat → Nat → Option (List Nat)} {p : List (List Nat)} {x : Nat → Nat → Nat} {pn pn' : Int} {z : Nat → Nat → Option (List Nat)} {xo : Option Nat} {r : Int}
theorem csR_2 {b : Nat} {o o' : Option Nat} : csR (csR s k b o) k b o' = csR s k b o' := by
  have e : up2 (up2 s.2.2.1 k b o) k b o' = up2 s.2.2.1 k b o' := by
    funext i j
    unfold up2
    by_cases c : i = k ∧ j = b
    · rw [if_pos c, if_pos c]
    · rw [if_neg c, if_neg c, if_neg c]
  show (s.1, s.2.1, up2 (up2 s.2.2.1 k b o) k b o', s.2.2.2) = _
  rw [e]
  rfl
theorem csR_id {b : Nat} {o : Option Nat} (h : cR s k b = o) : csR s k b o = s := by
  have e : up2 s.2.2.1 k b o = s.2.2.1 := by
    funext i j
    unfold up2
    by_cases c : i = k ∧ j = b
    · rw [if_pos c, c.1, c.2]
      exact h.symm
    · rw [if_neg c]
  show (s.1, s.2.1, up2 s.2.2.1 k b o, s.2.2.2) = s
  rw [e]
theorem csR_c {b b' k' : Nat} {o o' : Option Nat} (h : b ≠ b') : csR (csR s k b o) k' b' o' = csR (csR s k' b' o') k b o := by
  have e : up2 (up2 s.2.2.1 k b o) k' b' o' = up2 (up2 s.2.2.1 k' b' o') k b o := by
    funext i j
    unfold up2
    by_cases c : i = k ∧ j = b
    · rw [if_pos c, if_neg (by omega), if_pos c]
    · rw [if_neg c, if_neg c]
  show (s.1, s.2.1, up2 (up2 s.2.2.1 k b o) k' b' o', s.2.2.2) = (s.1, s.2.1, up2 (up2 s.2.2.1 k' b' o') k b o, s.2.2.2)
  rw [e]
theorem cDrp_R {q u b : Nat} {o : Option Nat} (h1 : b ≠ a) (h2 : b ≠ q) : cDrp (csR s k b o) q a u = csR (cDrp s q a u) k b o := by
  unfold cDrp
  have ef : frF (csR s k b o) a = frF s a := rfl
  by_cases c : u = 1
  · rw [if_pos c, if_pos c, ef, cR_ne _ _ (Or.inr (fun q => h2 q.symm)), csR_c (b := b) (b' := q) (s := csR (csI s 3 a (nI 0)) 6 a (cR s (frF s a) q)) h2 |>.symm]
    congr 1
    exact csR_c (s := csI s 3 a (nI 0)) h1
  · rw [if_neg c, if_neg c]
    rfl
theorem CRb.mvf (h : CRb F g H T s ct hd w pe n) (hn : n < H) (hk : k = 14 ∨ k = 15) (hx : cR s k (nd g n) = some a) : CRb F g H T (csR s k (nd g n) none) ct (a :: hd) w pe n := by
  obtain ⟨h1, h2, h3, h4, h5, h6⟩ := h
  exact ⟨h1, h2.R5 (isO5 hn) hk tK_none, h3, h4.mvF hn hk hx, h5.fr rfl rfl rfl rfl (fun m _ => rfl), h6.one hn (xfr_R.mono (fun b' _ z => by unfold ndP; omega)) rfl⟩
theorem CRb.ptf (h : CRb F g H T s ct (a :: hd) w pe n) (hn : n < H) (hk : k = 14 ∨ k = 15) (hx : cR s k (nd g n) = none) (q2 : cI s 4 a = nI 1) : CRb F g H T (csR s k (nd g n) (some a)) ct hd w pe n := by
  obtain ⟨h1, h2, h3, h4, h5, h6⟩ := h
  have k5 := h4.k (a := a) us_self
  exact ⟨h1, h2.R5 (isO5 hn) hk (tK_some k5), h3, h4.ptF hn hk hx q2, h5.fr rfl rfl rfl rfl (fun m _ => rfl), h6.one hn (xfr_R.mono (fun b' _ z => by unfold ndP; omega)) rfl⟩
theorem CRb.up_ (h : CRb F g H T s ct hd w pe n) (ha : 1 ≤ us g H T s hd a) : CRb F g H T (csI s 3 a (cI s 3 a + nI 1)) ct (a :: hd) w pe n := by
  obtain ⟨h1, h2, h3, h4, h5, h6⟩ := h
  exact ⟨h1, h2.I _ _ _, h3, h4.up ha, h5.fr rfl rfl rfl rfl (fun _ _ => rfl), h6.mf (mfr_I (h4.n (h4.k ha)))⟩
/-- a field is let go -/
theorem CRb.ltf (h : CRb F g H T s ct hd w pe n) (hn : n < H) (hl : hd.length ≤ 35) (hk : k = 14 ∨ k = 15) : p_X9_drop N g H T s (g + 11) (cR s k (nd g n)) ∧ CRb F g H T (csR (k_X9_drop N g H T s (g + 11) (cR s k (nd g n))) k (nd g n) none) ct hd w pe n ∧ mfr g H s (k_X9_drop N g H T s (g + 11) (cR s k (nd g n))) ∧ cP (k_X9_drop N g H T s (g + 11) (cR s k (nd g n))) = cP s ∧ cA (k_X9_drop N g H T s (g + 11) (cR s k (nd g n))) = cA s ∧ ∀ b, cI (k_X9_drop N g H T s (g + 11) (cR s k (nd g n))) 4 b = cI s 4 b := by
  cases hx : cR s k (nd g n) with
  | none =>
    have e0 : p_X9_drop N g H T s (g + 11) none ∧ k_X9_drop N g H T s (g + 11) none = s := by
      show wp (KO_X9_drop_0 N g H T (g + 11) none s) (KF_X9_drop_0 N g H T (g + 11) none s) (fun z => z = s)
      unfold KO_X9_drop_0 KF_X9_drop_0
      exact wp_pos rfl (wp_fin trivial rfl)
    rw [e0.2, csR_id hx]
    exact ⟨e0.1, h, mfr.refl, rfl, rfl, fun _ => rfl⟩
  | some a =>
    have c1 := cnA_hf (g := g) (H := H) (T := T) hn hk hx
    have ha : 1 ≤ us g H T s hd a := by
      unfold us
      omega
    obtain ⟨d1, d2⟩ := h.dp (N := N) ha (by omega)
    have m := h.mvf hn hk hx
    have l := h.2.2.2.1.n (h.2.2.2.1.k ha)
    have eu : us g H T (csR s k (nd g n) none) (a :: hd) a = us g H T s hd a := by
      rw [us_cons, ind_s]
      unfold us
      have e1 := cnA_fld (g := g) (H := H) (T := T) (s := s) (a := a) (x := none) hn hk
      rw [hx, ind_none, ind_s] at e1
      omega
    have q := m.dr hl
    have n1 : nd g n < nd g H := by unfold nd; omega
    rw [eu, cDrp_R (by omega) (by unfold nd; omega)] at q
    rw [d2]
    obtain ⟨o1, o2, o3, o4, o5, o6, o7⟩ := cDrp_o (s := s) (g := g) (a := a) (u := us g H T s hd a)
    refine ⟨d1, q, cDrp_m l, o5, o6, fun b => ?_⟩
    unfold cDrp
    split
    · show cI (csI s 3 a (nI 0)) 4 b = _
      exact cI_other _ _ (Or.inl (by decide))
    · exact cI_other _ _ (Or.inl (by decide))
theorem CNz.fK {x0 : Int32} (h : CNz g H T s ct n v y p x pn z) (hk : k = 14 ∨ k = 15) (hq : qN (cI (csI s (k - 2) (nd g n) x0)) (nd g n) n v' pn') (hv : ∀ j, j = 1 ∨ (9 ≤ j ∧ j ≠ 17) → v' j = v j) (hx : ∀ a, xo = some a → bg (ct a) 0 = 1) : CNz g H T (csI (csR s k (nd g n) xo) (k - 2) (nd g n) x0) ct n v' (knY y k (xo.map fun a => (ct a).drop 6)) p x pn' z := by
  have h' := h.n0 hq hv
  have es : csI (csR s k (nd g n) xo) (k - 2) (nd g n) x0 = csR (csI s (k - 2) (nd g n) x0) k (nd g n) xo := rfl
  rw [es]
  generalize csI s (k - 2) (nd g n) x0 = s1 at h'
  obtain ⟨c1, c2, c3, c4, c5, c6, c7, c8, c9, c10, c11, c12, c13, c14⟩ := h'
  have yo : ∀ f, f ≠ k - 14 → knY y k (xo.map fun a => (ct a).drop 6) f = y f := fun f hf => funext fun i => if_neg (fun q => hf q.1)
  refine ⟨c1, c2, c3, c4, ?_, ?_, ?_, ?_, ?_, c10, ⟨?_, ?_, fun k' a hk' ha => ?_⟩, ?_, c13, c14⟩
  · rw [yo 7 (by omega)]
    exact c5
  · rw [yo 9 (by omega)]
    exact c6
  · rw [yo 9 (by omega)]
    exact c7
  · rw [yo 9 (by omega), yo 6 (by omega)]
    exact c8
  · unfold qS_
    rw [yo 3 (by omega), yo 2 (by omega)]
    exact c9
  · rcases hk with rfl | rfl
    · rw [cR_at]
      rfl
    · rw [cR_ne _ _ (Or.inl (by decide)), yo 0 (by decide)]
      exact c11.1
  · rcases hk with rfl | rfl
    · rw [cR_ne _ _ (Or.inl (by decide)), yo 1 (by decide)]
      exact c11.2.1
    · rw [cR_at]
      rfl
  · by_cases c : k' = k
    · rw [c, cR_at] at ha
      exact hx a ha
    · rw [cR_ne _ _ (Or.inl c)] at ha
      exact c11.2.2 k' a hk' ha
  · rw [yo 7 (by omega)]
    exact c12
theorem CNz.nK (h : CNz g H T s ct n v y p x pn z) (hk : k = 14 ∨ k = 15) : qN (cI (csI s (k - 2) (nd g n) (iI r))) (nd g n) n (knV v k r) pn := by
  obtain ⟨q1, q2, q3, q4, q5, q6, q7, q8, q9, q10⟩ := h.1
  rcases hk with rfl | rfl <;> (
    unfold qN beN knV
    rw [cI_same, cI_other _ _ (Or.inl (by decide)), cI_other _ _ (Or.inl (by decide)), cI_other _ _ (Or.inl (by decide)), cI_other _ _ (Or.inl (by decide)), cI_other _ _ (Or.inl (by decide)), cI_other _ _ (Or.inl (by decide)), cI_other _ _ (Or.inl (by decide)), cI_other _ _ (Or.inl (by decide)), cI_other _ _ (Or.inl (by decide))])
  · exact ⟨q1, q2, q3, q4, q5, rfl, q7, q8, q9, q10⟩
  · exact ⟨q1, q2, q3, q4, q5, q6, rfl, q8, q9, q10⟩
/-- a message may be kept as locked or valid -/
def kpX (g H T : Nat) (s : cS) (ct : Nat → List Nat) (hd : List Nat) (xo : Option Nat) : Prop := ∀ a, xo = some a → 1 ≤ us g H T s hd a ∧ cI s 4 a = nI 1 ∧ bg (ct a) 0 = 1
def kfP (F g H T : Nat) (ct : Nat → List Nat) (hd : List Nat) (w : Wd) (pe : Nat → Int) (n : Nat) (v : Nat → Int) (y : Nat → Nat → Option (List Nat)) (p : List (List Nat)) (x : Nat → Nat → Nat) (pn : Int) (z : Nat → Nat → Option (List Nat)) (k : Nat) (xo : Option Nat) (r : Int) (s s' : cS) : Prop := CRz F g H T s' ct hd w pe n (knV v k r) (knY y k (xo.map fun a => (ct a).drop 6)) p x pn z ∧ cP s' = cP s ∧ ∀ b, cI s' 4 b = cI s 4 b
theorem setK_14 (h : CRz F g H T s ct hd w pe n v y p x pn z) (hn : n < H) (hl : hd.length ≤ 30) (hk : k = 14 ∨ k = 15) : p_X9_drop N g H T s (g + 11) (cR s k (nd g n)) ∧ kfP F g H T ct hd w pe n v y p x pn z k none r s (csI (csR (k_X9_drop N g H T s (g + 11) (cR s k (nd g n))) k (nd g n) none) (k - 2) (nd g n) (iI r)) := by
  obtain ⟨d1, d2, d3, d4, d5, d6⟩ := h.bb.ltf (N := N) hn (by omega) hk
  refine ⟨d1, ?_⟩
  generalize k_X9_drop N g H T s (g + 11) (cR s k (nd g n)) = D at d2 d3 d4 d5 d6 ⊢
  have c1 := h.nz.fx (d3.nfx hn)
  have c2 := c1.fK (xo := none) (x0 := iI r) (v' := knV v k r) hk (c1.nK hk) (fun j hj => if_neg (by omega)) (fun a ha => by cases ha)
  have b2 := d2.set hn (s' := csI (csR D k (nd g n) none) (k - 2) (nd g n) (iI r)) ((cfr_I _ _ _ _).mono (fun b z => by unfold ndP; omega)) (d2.2.1.I _ _ _)
  exact ⟨b2.zz c2, d4, fun b => (cI_other _ _ (Or.inl (by omega))).trans (d6 b)⟩
theorem setK_0 (h : CRz F g H T s ct hd w pe n v y p x pn z) (hn : n < H) (hl : hd.length ≤ 29) (hk : k = 14 ∨ k = 15) (h1 : 1 ≤ us g H T s hd a) (h2 : cI s 4 a = nI 1) (h3 : bg (ct a) 0 = 1) : p_X9_drop N g H T (csI s 3 a (cI s 3 a + nI 1)) (g + 11) (cR (csI s 3 a (cI s 3 a + nI 1)) k (nd g n)) ∧ kfP F g H T ct hd w pe n v y p x pn z k (some a) r s (csI (csR (k_X9_drop N g H T (csI s 3 a (cI s 3 a + nI 1)) (g + 11) (cR (csI s 3 a (cI s 3 a + nI 1)) k (nd g n))) k (nd g n) (some a)) (k - 2) (nd g n) (iI r)) := by
  have h' := h.up hn h1
  have i4 : ∀ b, cI (csI s 3 a (cI s 3 a + nI 1)) 4 b = cI s 4 b := fun b => cI_other _ _ (Or.inl (by decide))
  have p4 : cP (csI s 3 a (cI s 3 a + nI 1)) = cP s := rfl
  generalize csI s 3 a (cI s 3 a + nI 1) = s1 at h' i4 p4 ⊢
  obtain ⟨d1, d2, d3, d4, d5, d6⟩ := h'.bb.ltf (N := N) hn (by show hd.length + 1 ≤ 35; omega) hk
  refine ⟨d1, ?_⟩
  generalize k_X9_drop N g H T s1 (g + 11) (cR s1 k (nd g n)) = D at d2 d3 d4 d5 d6 ⊢
  have c1 := h'.nz.fx (d3.nfx hn)
  have c2 := c1.fK (xo := some a) (x0 := iI r) (v' := knV v k r) hk (c1.nK hk) (fun j hj => if_neg (by omega)) (fun b hb => by cases hb; exact h3)
  have b1 := d2.ptf hn hk (cR_at _ _ _ _) (by show cI D 4 a = nI 1; rw [d6, i4]; exact h2)
  rw [csR_2] at b1
  have b2 := b1.set hn (s' := csI (csR D k (nd g n) (some a)) (k - 2) (nd g n) (iI r)) ((cfr_I _ _ _ _).mono (fun b z => by unfold ndP; omega)) (b1.2.1.I _ _ _)
  exact ⟨b2.zz c2, d4.trans p4, fun b => (cI_other _ _ (Or.inl (by omega))).trans ((d6 b).trans (i4 b))⟩
theorem setLocked_Z (h : CRz F g H T s ct hd w pe n v y p x pn z) (hn : n < H) (hl : hd.length ≤ 29) (hx : kpX g H T s ct hd xo) : wp (p_X6_setLocked N g H T s (nd g n) xo (iI r)) (k_X6_setLocked N g H T s (nd g n) xo (iI r)) (kfP F g H T ct hd w pe n v y p x pn z 14 xo r s) := by
  show wp (KO_X6_setLocked_0 N g H T (some (nd g n)) xo (iI r) s) (KF_X6_setLocked_0 N g H T (some (nd g n)) xo (iI r) s) _
  unfold KO_X6_setLocked_0 KF_X6_setLocked_0
  cases xo with
  | none =>
    refine wp_pos rfl ?_
    unfold KO_X6_setLocked_14 KF_X6_setLocked_14 KO_X6_setLocked_28 KF_X6_setLocked_28
    rw [zsome]
    obtain ⟨d1, d2⟩ := setK_14 (N := N) (k := 14) (r := r) h hn (by omega) (Or.inl rfl)
    exact wp_fin ⟨someN, d1, someN, trivial⟩ d2
  | some a =>
    obtain ⟨x1, x2, x3⟩ := hx a rfl
    refine wp_neg (by intro q; cases q) ?_
    unfold KO_X6_setLocked_14 KF_X6_setLocked_14 KO_X6_setLocked_28 KF_X6_setLocked_28
    rw [zsome, zsome]
    obtain ⟨d1, d2⟩ := setK_0 (N := N) (k := 14) (r := r) h hn hl (Or.inl rfl) x1 x2 x3
    exact wp_fin ⟨someN, d1, someN, trivial⟩ d2
theorem setValid_Z (h : CRz F g H T s ct hd w pe n v y p x pn z) (hn : n < H) (hl : hd.length ≤ 29) (hx : kpX g H T s ct hd xo) : wp (p_X6_setValid N g H T s (nd g n) xo (iI r)) (k_X6_setValid N g H T s (nd g n) xo (iI r)) (kfP F g H T ct hd w pe n v y p x pn z 15 xo r s) := by
  show wp (KO_X6_setValid_0 N g H T (some (nd g n)) xo (iI r) s) (KF_X6_setValid_0 N g H T (some (nd g n)) xo (iI r) s) _
  unfold KO_X6_setValid_0 KF_X6_setValid_0
  cases xo with
  | none =>
    refine wp_pos rfl ?_
    unfold KO_X6_setValid_14 KF_X6_setValid_14 KO_X6_setValid_28 KF_X6_setValid_28
    rw [zsome]
    obtain ⟨d1, d2⟩ := setK_14 (N := N) (k := 15) (r := r) h hn (by omega) (Or.inr rfl)
    exact wp_fin ⟨someN, d1, someN, trivial⟩ d2
  | some a =>
    obtain ⟨x1, x2, x3⟩ := hx a rfl
    refine wp_neg (by intro q; cases q) ?_
    unfold KO_X6_setValid_14 KF_X6_setValid_14 KO_X6_setValid_28 KF_X6_setValid_28
    rw [zsome, zsome]
    obtain ⟨d1, d2⟩ := setK_0 (N := N) (k := 15) (r := r) h hn hl (Or.inr rfl) x1 x2 x3
    exact wp_fin ⟨someN, d1, someN, trivial⟩ d2
end
end
