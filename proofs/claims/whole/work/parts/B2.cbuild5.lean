section
/-! THE CLASS'S NODE BUILDS A BLOCK: the message of it -/
section
variable {F N g H T n : Nat} {s s' s1 s2 X X' : cS} {ct ct' : Nat → List Nat} {hd : List Nat} {w w' : Wd} {pe : Nat → Int} {d M : List Nat} {P : Nat → Prop}
/-- scratch alone is written -/
theorem CR.sc (h : CR F g H T s ct hd w pe) (f : cfr P s X) (hP : ∀ a, P a → scP g H a) (st : St 0 g H T X) : CR F g H T X ct hd w pe := by
  obtain ⟨h1, h2, h3, h4, h5, h6⟩ := h
  have lS : ∀ a, scP g H a → a < nd g H := fun a ha => by
    rcases ha with q | q | q | q | q | ⟨m, hm, e⟩ <;> (unfold nd at *; omega)
  exact ⟨h1, st, by rw [f.2.2.1]; exact h3, h4.cf f (fun a ha => lS a (hP a ha)), h5.fr f.1 f.2.1 f.2.2.1 f.2.2.2.1 (fun _ _ => by rw [f.2.2.2.2.2.1]), h6.xf ((f.mono hP).xf lS)⟩
theorem cfr.ff (h : CR F g H T s ct hd w pe) (f : cfr P s X) (hP : ∀ a, P a → a < nd g H) : ffr g H hd s X := ⟨fun x hx => f.I 4 x (fun q => by
  have a1 := hP x q
  have a2 := (h.kd hx).2.1
  omega), f.pf⟩
theorem ffr.tl {a : Nat} (h : ffr g H (a :: hd) s X) : ffr g H hd s X := ⟨fun x hx => h.1 x (List.mem_cons_of_mem _ hx), h.2⟩
theorem bld_131 (hN : 2100 ≤ N) (h : CR F g H T s ct hd w pe) (hl : hd.length ≤ 30) (m1 : 107 ≤ M.length) (m2 : M.length ≤ 1000) (hB : isB M) (hwf : wf T M) (hid : idM M = some (idB (M.drop 6))) (hr : ∀ i, i < M.length → cA s (g + 28) i = sb (bg M i)) : wp (KO_X7_build_131 N g H T (g + 8) (some (g + 28)) (nI 6) (nI M.length) s) (KF_X7_build_131 N g H T (g + 8) (some (g + 28)) (nI 6) (nI M.length) s) (fun z => mkC F g H T s ct hd w pe M z ∧ ∀ a, z.1 = some a → cI z.2 4 a = nI 1) := by
  have hg : g + 31 ≤ nd g H := by unfold nd; omega
  unfold KO_X7_build_131 KF_X7_build_131
  refine wp_call (fresh_C (N := N) (len := M.length) h hl (by omega) (by omega)) ?_
  rintro ⟨a, y, z1, yl, c, ca, ua, i4, i5, f1, mf, f4⟩
  generalize k_X9_fresh N g H T s (g + 11) (nI M.length) = z at z1 c ca i4 i5 f1 mf f4 ⊢
  obtain ⟨z1', s4⟩ := z
  have z1 : z1' = some a := z1
  subst z1
  have c : CR F g H T s4 (fun b => if b = a then y else ct b) (a :: hd) w pe := c
  have ca : cnA g H T s4 a = 0 := ca
  have i4 : cI s4 4 a = nI 0 := i4
  have i5 : cI s4 5 a = nI 0 := i5
  have f1 : ffr g H hd s s4 := f1
  have mf : mfr g H s s4 := mf
  have ms : mS s4 a y := by
    have q := c.ms (a := a) us_self
    rwa [show (if a = a then y else ct a) = y from if_pos rfl] at q
  have st4 := c.2.1
  have K28 : cK s4 (g + 28) = 20 := (st4.rk (c := 8) (k := 10) isO8 rfl (by omega)) _ rfl
  have L28 : cL s4 (g + 28) = 1024 := st4.rl (c := 8) (k := 10) isO8 rfl (by omega) (by omega)
  have La : M.length ≤ cL s4 (a + 2) := by
    have := ms.2.2.1.1
    omega
  have aH : nd g H ≤ a := c.2.2.2.1.n (c.2.2.2.1.k (a := a) us_self)
  have r4 : cA s4 (g + 28) = cA s (g + 28) := (mf.2.2.2.2.1 (g + 28) (by omega)).1
  show wp (KO_X7_build_140 N g H T (g + 8) (some (g + 28)) (nI 6) (nI M.length) (some a) s4) (KF_X7_build_140 N g H T (g + 8) (some (g + 28)) (nI 6) (nI M.length) (some a) s4) _
  unfold KO_X7_build_140 KF_X7_build_140
  have c0 : (nI 0).toNatClampNeg = 0 := rfl
  rw [zsome, zsome, c0, n_clamp (by omega), L28]
  have st5 := st4.Ac (a + 2) (g + 28) 0 0 M.length (tK_some K28)
  refine wp_and someN (wp_and ⟨someN, ⟨by decide, by decide, n_lt0 (by omega)⟩, by omega, by omega⟩ ?_)
  have fr : ∀ i, i < M.length → va_cpy (cA s4 (g + 28)) (cA s4 (a + 2)) 0 0 M.length i = sb (bg M i) := fun i hi => by
    rw [va_cpy0 _ _ _ _ hi, r4]
    exact hr i hi
  generalize va_cpy (cA s4 (g + 28)) (cA s4 (a + 2)) 0 0 M.length = f at fr st5 ⊢
  have mk := mk_row (m := M) c ca ua f1 (mw_A (f := f)) st5 yl.symm hB (fun i hi => by rw [cA_same]; exact fr i hi) (Or.inl ⟨i4, i5⟩)
  have r5 : cA (csArow s4 (a + 2) f) (g + 28) = cA s4 (g + 28) := cA_other _ _ (by omega)
  have L5 : cL (csArow s4 (a + 2) f) (g + 28) = 1024 := L28
  have K5 : cK (csArow s4 (a + 2) f) (g + 28) = 20 := K28
  generalize csArow s4 (a + 2) f = s5 at mk st5 r5 L5 K5 ⊢
  obtain ⟨a', ct5, q0, q1, q2, q3, q4, q5, q6⟩ := mk
  have q0 : a = a' := Option.some.inj q0
  subst q0
  have q3 : CR F g H T s5 ct5 (a :: hd) w pe := q3
  have q4 : cnA g H T s5 a = 0 := q4
  have q6 : ffr g H hd s s5 := q6
  have K29 : cK s5 (g + 29) = 20 := (st5.rk (c := 8) (k := 11) isO8 rfl (by omega)) _ rfl
  have L29 : cL s5 (g + 29) = 32 := st5.rl (c := 8) (k := 11) isO8 rfl (by omega) (by omega)
  unfold KO_X7_build_155 KF_X7_build_155
  rw [n_add]
  have cB5 : cB s5 (g + 28) M := ⟨by omega, by omega, fun i hi => by rw [r5, r4]; exact hr i hi, hB⟩
  obtain ⟨d1, d2, d3, d4⟩ := digestC (N := N) (g := g) (H := H) (T := T) (s := s5) (r := g + 28) (a := 6) (b := 6 + 101) (d := g + 29) (at_ := 0) (R := M) hN st5 cB5 (by unfold isH; omega) (by omega) (by omega) (by omega) (by unfold isH; omega) (by omega) (by omega)
  refine wp_and d1 ?_
  have st6 := (kpc_X2_digest st5 oH (tK_some K5) (tK_some K29) d1).1
  generalize k_X2_digest N g H T s5 (g + 3) (some (g + 28)) (nI 6) (nI (6 + 101)) (some (g + 29)) (nI 0) = s6 at d2 d3 d4 st6 ⊢
  have L6 : cL s6 (g + 29) = 32 := by rw [d2.L]; exact L29
  have hdB : cB s6 (g + 29) (shaB (sl M 6 (6 + 101 - 6))) := by
    refine ⟨by rw [shaB_len, L6]; exact Nat.le_refl _, by rw [L6]; decide, fun i hi => ?_, shaB_B _⟩
    rw [shaB_len] at hi
    refine st6.sb (by rw [d2.1]; exact K29) (shaB_B _ i) ?_
    have := d3 i hi
    rw [Nat.zero_add] at this
    exact this
  have hP6 : ∀ x, isH (g + 3) x ∨ x = g + 29 → scP g H x := fun x hx => by
    rcases hx with hx | hx
    · unfold isH at hx
      exact Or.inl (by omega)
    · exact Or.inr (Or.inr (Or.inr (Or.inr (Or.inl hx))))
  have c6 := q3.sc d2 hP6 st6
  have lt6 : ∀ x, isH (g + 3) x ∨ x = g + 29 → x < nd g H := fun x hx => by unfold isH at hx; omega
  have ca6 : cnA g H T s6 a = 0 := by
    rw [← q4]
    exact cnA_fr (by rw [d2.2.2.2.2.2.1]) (fun _ _ _ _ => by rw [d2.2.2.2.2.2.1]) (fun _ _ _ _ => by rw [d2.2.2.2.2.1])
  unfold KO_X7_build_173 KF_X7_build_173
  rw [zsome a]
  obtain ⟨e1, J, e2, e3⟩ := readId_ok (N := N) (g := g) (H := H) (T := T) (a := a) (i := 0) hdB (by rw [shaB_len, L6]) (by rw [shaB_len]; exact Nat.le_refl _) (by omega)
  refine wp_and ⟨someN, e1⟩ ?_
  rw [e2]
  unfold KO_X7_build_183 KF_X7_build_183
  rw [zsome a]
  have mw8 : mw a s6 (csI (csJrow (csI s6 5 a (nI 1)) (a + 1) J) 4 a (nI 1)) := ((mw_I (Or.inr rfl)).trans mw_J).trans (mw_I (Or.inl rfl))
  have st8 : St 0 g H T (csI (csJrow (csI s6 5 a (nI 1)) (a + 1) J) 4 a (nI 1)) := st6
  have g4 : cI (csI (csJrow (csI s6 5 a (nI 1)) (a + 1) J) 4 a (nI 1)) 4 a = nI 1 := cI_same _ _ _ _
  have g5 : cI (csI (csJrow (csI s6 5 a (nI 1)) (a + 1) J) 4 a (nI 1)) 5 a = nI 1 := by
    rw [cI_other _ _ (Or.inl (by decide))]
    exact cI_same _ _ _ _
  have gJ : cJ (csI (csJrow (csI s6 5 a (nI 1)) (a + 1) J) 4 a (nI 1)) (a + 1) = J := by
    show cJ (csJrow (csI s6 5 a (nI 1)) (a + 1) J) (a + 1) = J
    rw [cJ_same]
  have gA : cA (csI (csJrow (csI s6 5 a (nI 1)) (a + 1) J) 4 a (nI 1)) = cA s6 := rfl
  generalize csI (csJrow (csI s6 5 a (nI 1)) (a + 1) J) 4 a (nI 1) = s8 at mw8 st8 g4 g5 gJ gA ⊢
  have ms6 : mS s6 a M := by
    have q := c6.ms (a := a) us_self
    rwa [q1] at q
  obtain ⟨n1, n2, n3, n4, n5, n6⟩ := ms6
  have hh := mw8
  obtain ⟨a1, a2, a3, a4, a5, a6, a7, a8, a9⟩ := hh
  have nm : nmC s8 a (idM M) := by
    rw [hid]
    refine ⟨g5, fun k hk => ?_⟩
    rw [gJ, e3 k hk, Nat.zero_add]
    unfold idB
    rw [show sl (M.drop 6) 0 101 = sl M 6 (6 + 101 - 6) by rw [sl_drop, Nat.add_zero, Nat.add_sub_cancel_left]]
  have r8 : ∀ i, i < M.length → cA s8 (a + 2) i = sb (bg M i) := fun i hi => by
    rw [gA]
    exact n3.2.2.1 i hi
  have hm8 : hM T s8 a M := ⟨⟨by rw [a1]; exact n1, by rw [a7 2 a (Or.inr (by decide))]; exact n2, ⟨by rw [a2]; exact n3.1, by rw [a2]; exact n3.2.1, r8, hB⟩, n4, by rw [a2]; exact n5, n6⟩, Or.inr (Or.inl ⟨g4, hwf, nm⟩)⟩
  have c8 := wr_C c6 ca6 mw8 st8 hm8
  refine wp_fin ⟨someN, trivial⟩ ⟨⟨a, _, rfl, if_pos rfl, fun b hb => ?_, c8, by rw [mw8.cn_]; exact ca6, ua, q6.trans ((ffr.tl (cfr.ff (hd := a :: hd) q3 d2 lt6)).trans ⟨fun x hx => ?_, ?_⟩)⟩, fun a' q => by cases q; exact g4⟩
  · show (if b = a then M else ct5 b) = ct b
    rw [if_neg hb]
    exact q2 b hb
  · have : x ≠ a := fun q => by
      have := us_in (g := g) (H := H) (T := T) (s := s) hx
      rw [q] at this
      omega
    exact a7 4 x (Or.inl this)
  · exact ⟨by rw [a4], fun _ _ _ _ => by rw [a4], fun _ _ _ _ => by rw [a3]⟩
end
end
