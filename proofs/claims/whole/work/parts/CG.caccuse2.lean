section
/-! THE CLASS ACCUSES: all of it -/
section
variable {F N g H T n : Nat} {s s0 s1 S : cS} {ct : Nat → List Nat} {hd : List Nat} {w w' V X : Wd} {pe pe' : Nat → Int} {a b c e i : Nat} {G : Gh}
theorem CR.nm (cr : CR F g H T s ct hd w pe) (ua : 1 ≤ us g H T s hd a) (f4 : cI s 4 a = nI 1) : mS s a (ct a) ∧ wf T (ct a) ∧ nmC s a (idM (ct a)) := by
  have hm := cr.2.2.2.1.m ua
  rcases hm.2 with ⟨q, _⟩ | ⟨_, q⟩ | ⟨q, _⟩
  · rw [f4] at q
    exact absurd q (by decide)
  · exact ⟨hm.1, q⟩
  · rw [f4] at q
    exact absurd q (by decide)
theorem acc_48 {o : Option (List Nat)} {y d : List Nat} {len p q : Nat} (hN : 100 ≤ N) (cr : CR F g H T s ct hd w pe) (hn : n < H) (hl : hd.length ≤ 24) (hu : wN w n 0 = 1) (up : 1 ≤ us g H T s hd p) (uq : 1 ≤ us g H T s hd q) (ua : 1 ≤ us g H T s hd a) (p4 : cI s 4 p = nI 1) (q4 : cI s 4 q = nI 1) (op : idM (ct p) = o) (ok : idK o) (oq : idM (ct q) = some d) (dl : d.length = 32) (dB : isB d) (ea : ct a = y) (y6 : 6 ≤ y.length) (y1 : bg y 1 < T) (hno : wY w n 2 (bg y 1) = none) (el : len = (evH y ++ enB o ++ enB (some d)).length) : wp (KO_X3_accuse_48 N g H T (some (nd g n)) (some a) (some p) (some q) (g + 11) (nI 1) (nI (len - 1)) s) (KF_X3_accuse_48 N g H T (some (nd g n)) (some a) (some p) (some q) (g + 11) (nI 1) (nI (len - 1)) s) (fun s' => ∃ ct', (∀ b, b ∈ hd → ct' b = ct b) ∧ CR F g H T s' ct' hd (aAll (sBy w n 2 (bg y 1) (some (evH y ++ enB o ++ enB (some d)))) n T (evH y ++ enB o ++ enB (some d))) pe) := by
  obtain ⟨M, eM⟩ : ∃ M, M = evH y ++ enB o ++ enB (some d) := ⟨_, rfl⟩
  have eo := enB_ok ok
  have lM : M.length = 6 + (enB o).length + 33 := by
    rw [eM, List.length_append, List.length_append]
    show 6 + (enB o).length + (d.length + 1) = _
    omega
  rw [← eM] at el ⊢
  have cb := cr.1.bb
  have yB : isB y := by
    have := (cr.ms ua).2.2.1.2.2.2
    rw [ea] at this
    exact this
  have ty := tw_lt yB 2
  have b0 := yB 0
  have b1 := yB 1
  have b4 := yB 4
  unfold KO_X3_accuse_48 KF_X3_accuse_48
  rw [n_add, show 1 + (len - 1) = len by omega]
  refine wp_call (fresh_C (N := N) (len := len) cr (by omega) (by omega) (by omega)) (fun fr => ?_)
  obtain ⟨c, y0, z1, yl, cc, ca, uc, i4, i5, f1, f2, f3⟩ := fr
  generalize k_X9_fresh N g H T s (g + 11) (nI len) = z at z1 cc ca i4 i5 f1 f2 f3 ⊢
  obtain ⟨z1', s1⟩ := z
  have z1 : z1' = some c := z1
  subst z1
  have cc : CR F g H T s1 (fun b => if b = c then y0 else ct b) (c :: hd) w pe := cc
  have ca : cnA g H T s1 c = 0 := ca
  have i4 : cI s1 4 c = nI 0 := i4
  have i5 : cI s1 5 c = nI 0 := i5
  have f1 : ffr g H hd s s1 := f1
  have f3 : ∀ b, cK s b = 5 → cI s1 4 b = cI s 4 b ∨ b = c := f3
  have ne : ∀ x, 1 ≤ us g H T s hd x → x ≠ c := fun x hx q => by
    rw [q] at hx
    omega
  have u1 : ∀ x, 1 ≤ us g H T s hd x → 1 ≤ us g H T s1 (c :: hd) x := fun x hx => by
    rw [us_cons, f1.2.us x]
    omega
  have n1 : ∀ x, 1 ≤ us g H T s hd x → cI s 4 x = nI 1 → nmC s1 x (idM (ct x)) := fun x hx h4 => by
    have := (cc.nm (u1 x hx) (by
      rcases f3 x (cr.ms hx).1 with q | q
      · rw [q]
        exact h4
      · exact absurd q (ne x hx))).2.2
    rw [show (if x = c then y0 else ct x) = ct x from if_neg (ne x hx)] at this
    exact this
  have np := n1 p up p4
  have nq := n1 q uq q4
  rw [op] at np
  rw [oq] at nq
  have ma : mS s1 a y := by
    have := cc.ms (u1 a ua)
    rw [show (if a = c then y0 else ct a) = ct a from if_neg (ne a ua), ea] at this
    exact this
  have mc := cc.ms (a := c) us_self
  rw [show (if c = c then y0 else ct c) = y0 from if_pos rfl] at mc
  have L : cL s1 (c + 2) = 128 := by
    have q := mc.2.2.2.2.1
    rw [yl, if_pos (by omega)] at q
    exact q
  have k20 : cK s1 (c + 2) = 20 := (cc.2.1.ms mc.1).2.1
  have fb0 : rB (cA s1 (c + 2)) := cc.2.1.2.2.2.2.2.2.2.2.2.2 (c + 2) k20
  have nea := ne a ua
  have Lr : ∀ f, cL (csArow s1 (c + 2) f) (c + 2) = 128 := fun _ => L
  show wp (KO_X3_accuse_52 N g H T (some (nd g n)) (some a) (some p) (some q) (some c) s1) (KF_X3_accuse_52 N g H T (some (nd g n)) (some a) (some p) (some q) (some c) s1) _
  unfold KO_X3_accuse_52 KF_X3_accuse_52
  have c0 : (nI 0).toNatClampNeg = 0 := rfl
  have c1 : (nI 1).toNatClampNeg = 1 := rfl
  have c2 : (nI 2).toNatClampNeg = 2 := rfl
  have c5 : (nI 5).toNatClampNeg = 5 := rfl
  have s6 : (nI 6).toInt8.toInt32 = sb 6 := rfl
  obtain ⟨g1, g2⟩ := signer_c (N := N) (g := g) (H := H) (T := T) (ma.rw_ (f := upd (cA s1 (c + 2)) 0 (sb 6)) nea) (by omega)
  rw [zsome, zsome, c0, c1, s6, csA_row, g2, sb2, csA_row, cA_same, row_row, Lr, L, show bg y 1 % 256 = bg y 1 by omega]
  refine wp_and someN (wp_and ((n_in (by omega)).2 (by omega)) (wp_and ⟨someN, g1⟩ (wp_and ((n_in (by omega)).2 (by omega)) ?_)))
  have fb1 := (fb0.up 0 6).up 1 (bg y 1)
  have r1 : ∀ i, i < 2 → upd (upd (cA s1 (c + 2)) 0 (sb 6)) 1 (sb (bg y 1)) i = sb (bg (evH y) i) := fun i hi => by
    rcases (show i = 0 ∨ i = 1 by omega) with rfl | rfl
    · rfl
    · rfl
  generalize upd (upd (cA s1 (c + 2)) 0 (sb 6)) 1 (sb (bg y 1)) = fa at fb1 r1 ⊢
  unfold KO_X3_accuse_75 KF_X3_accuse_75
  obtain ⟨k1, k2⟩ := kind_ok (N := N) (g := g) (H := H) (T := T) (ma.rw_ (f := fa) nea)
  rw [zsome, zsome, c2, k2, sb2, csA_row, cA_same, row_row, Lr, show bg y 0 % 256 = bg y 0 by omega]
  obtain ⟨t1, t2⟩ := two_ok (N := N) (g := g) (H := H) (T := T) (i := 2) (ma.rw_ (f := upd fa 2 (sb (bg y 0))) nea) (by omega)
  have et : twM y 2 = tw y 2 := if_pos (by omega)
  rw [t2, et]
  obtain ⟨p1, p2⟩ := putTwo_c (N := N) (g := g) (H := H) (T := T) (s := csArow s1 (c + 2) (upd fa 2 (sb (bg y 0)))) (r := c + 2) (a := 3) (x := tw y 2) (by rw [Lr]; decide) (by rw [Lr]; decide) (by omega)
  refine wp_and someN (wp_and ⟨someN, k1⟩ (wp_and ((n_in (by omega)).2 (by omega)) (wp_and t1 (wp_and p1 ?_))))
  rw [p2, csA_row, csA_row, cA_same, cA_same, row_row, row_row, show tw y 2 / 256 % 256 = tw y 2 / 256 by omega]
  have fb2 := ((fb1.up 2 (bg y 0)).up 3 (tw y 2 / 256)).up (3 + 1) (tw y 2 % 256)
  have r2 : ∀ i, i < 5 → upd (upd (upd fa 2 (sb (bg y 0))) 3 (sb (tw y 2 / 256))) (3 + 1) (sb (tw y 2 % 256)) i = sb (bg (evH y) i) := fun i hi => by
    rcases (show i < 2 ∨ i = 2 ∨ i = 3 ∨ i = 4 by omega) with q | rfl | rfl | rfl
    · rw [upd_other _ _ (by omega), upd_other _ _ (by omega), upd_other _ _ (by omega)]
      exact r1 i q
    · rfl
    · rfl
    · rfl
  generalize upd (upd (upd fa 2 (sb (bg y 0))) 3 (sb (tw y 2 / 256))) (3 + 1) (sb (tw y 2 % 256)) = fc at fb2 r2 ⊢
  unfold KO_X3_accuse_101 KF_X3_accuse_101
  obtain ⟨v1, v2⟩ := at_ok (N := N) (g := g) (H := H) (T := T) (i := 4) (ma.rw_ (f := fc) nea) (by omega)
  rw [zsome, zsome, zsome, c5, v2, sb2, csA_row, cA_same, row_row, Lr, show bg y 4 % 256 = bg y 4 by omega]
  have fb3 := fb2.up 5 (bg y 4)
  have r3 : ∀ i, i < 6 → upd fc 5 (sb (bg y 4)) i = sb (bg (evH y) i) := fun i hi => by
    rcases (show i < 5 ∨ i = 5 by omega) with q | rfl
    · rw [upd_other _ _ (by omega)]
      exact r2 i q
    · rfl
  generalize upd fc 5 (sb (bg y 4)) = fd at fb3 r3 ⊢
  refine wp_and someN (wp_and ⟨someN, v1⟩ (wp_and ((n_in (by omega)).2 (by omega)) (wp_and someN ?_)))
  have e5 : cI (csArow s1 (c + 2) fd) 5 p = cI s1 5 p := rfl
  rw [e5]
  have bM1 : bg M 1 = bg y 1 := by
    rw [eM]
    rfl
  have iB : isB M := by
    rw [eM]
    have hH : isB (evH y) := isB_cons (by decide) (isB_cons b1 (isB_cons b0 (isB_cons (by omega) (isB_cons (by omega) (isB_cons b4 isB_nil)))))
    exact isB_app (isB_app hH eo.2.2) (isB_cons (by decide) dB)
  have fin : wp (KO_X3_accuse_133 N g H T (some (nd g n)) (some p) (some q) (some c) (some (c + 2)) (nI 6) (nI (edN o)) (csArow s1 (c + 2) fd)) (KF_X3_accuse_133 N g H T (some (nd g n)) (some p) (some q) (some c) (some (c + 2)) (nI 6) (nI (edN o)) (csArow s1 (c + 2) fd)) (fun s' => ∃ ct', (∀ b, b ∈ hd → ct' b = ct b) ∧ CR F g H T s' ct' hd (aAll (sBy w n 2 (bg y 1) (some M)) n T M) pe) := by
    refine acc_133 hN L np ok nq dB dl fb3 (fun f' b' h6 hr => ?_)
    rw [← bM1]
    refine acc_tail (s := s) (y0 := y0) hN cc hn hl hu ca uc f1 i4 i5 (by rw [yl, el]) iB (fun i hi => ?_) b' (by omega) (by omega) (by omega) (by rw [bM1]; exact hno)
    have eM2 : M = evH y ++ (enB o ++ enB (some d)) := by rw [eM, List.append_assoc]
    rw [eM2, bg_app]
    have l6 : (evH y).length = 6 := rfl
    rw [l6]
    by_cases q6 : i < 6
    · rw [if_pos q6, h6 i q6]
      exact r3 i q6
    · rw [if_neg q6]
      have := hr (i - 6) (by
        rw [eM2, List.length_append, l6] at hi
        omega)
      rw [show 6 + (i - 6) = i by omega] at this
      exact this
  cases o with
  | none =>
    have np : cI s1 5 p = nI 0 := np
    exact wp_pos (by rw [np]; rfl) fin
  | some d1 =>
    have np : cI s1 5 p = nI 1 := np.1
    exact wp_neg (by rw [np]; decide) fin
/-- two ends that are not one: a proof -/
theorem accuse_C {m y : List Nat} (hN : 100 ≤ N) (cr : CR F g H T s ct hd w pe) (hn : n < H) (hl : hd.length ≤ 24) (hu : wN w n 0 = 1) (ua : 1 ≤ us g H T s hd a) (a4 : cI s 4 a = nI 1) (ea : ct a = y) (hb : b ∈ hd) (b4 : cI s 4 b = nI 1) (eb : ct b = m) (iy : idM y = edM y) (im : idM m = edM m) (hH : evH y = evH m) (ne : edM m ≠ edM y) (y6 : 6 ≤ y.length) (y1 : bg m 1 < T) (hno : wY w n 2 (bg m 1) = none) : wp (p_X3_accuse N g H T s (some (nd g n)) (some a) (some b)) (k_X3_accuse N g H T s (some (nd g n)) (some a) (some b)) (fun s' => ∃ ct', (∀ b, b ∈ hd → ct' b = ct b) ∧ CR F g H T s' ct' hd (aEv w n T m y) pe) := by
  have ub := us_in (g := g) (H := H) (T := T) (s := s) hb
  have na := cr.nm ua a4
  have nb := cr.nm ub b4
  rw [ea, iy] at na
  rw [eb, im] at nb
  have ky : idK (edM y) := fun d q => edM_ok na.1.2.2.1.2.2.2 q
  have km : idK (edM m) := fun d q => edM_ok nb.1.2.2.1.2.2.2 q
  have e1 : bg y 1 = bg m 1 := by
    have := congrArg (fun l => bg l 1) hH
    exact this
  have nab : b ≠ a := fun q => ne (by rw [← eb, ← ea, q])
  show wp (KO_X3_accuse_0 N g H T (some (nd g n)) (some a) (some b) s) (KF_X3_accuse_0 N g H T (some (nd g n)) (some a) (some b) s) _
  unfold KO_X3_accuse_0 KF_X3_accuse_0
  rw [zsome]
  have eb_ := endsBelow_c (N := N) (g := g) (H := H) (T := T) (by omega) na.2.2 nb.2.2 ky km (fun q => ne q.symm)
  have ev : ∀ M, M = evM m y → aAll (sBy w n 2 (bg y 1) (some M)) n T M = aEv w n T m y := fun M q => by
    have q1 : bg (evM m y) 1 = bg m 1 := rfl
    have q2 : aKp w n (evM m y) = (true, sBy w n 2 (bg m 1) (some (evM m y))) := by
      unfold aKp
      rw [q1, hno]
    unfold aEv
    rw [q2, if_pos rfl, q, e1]
  have go : ∀ p q (o : Option (List Nat)) (d : List Nat), 1 ≤ us g H T s hd p → 1 ≤ us g H T s hd q → cI s 4 p = nI 1 → cI s 4 q = nI 1 → idM (ct p) = o → idK o → idM (ct q) = some d → d.length = 32 → isB d → evH y ++ enB o ++ enB (some d) = evM m y → wp (KO_X3_accuse_24 N g H T (some (nd g n)) (some a) (some p) (some q) s) (KF_X3_accuse_24 N g H T (some (nd g n)) (some a) (some p) (some q) s) (fun s' => ∃ ct', (∀ b, b ∈ hd → ct' b = ct b) ∧ CR F g H T s' ct' hd (aEv w n T m y) pe) := fun p q o d up uq p4 q4 op ok oq dl dB eM => by
    unfold KO_X3_accuse_24 KF_X3_accuse_24
    rw [zsome]
    have np := (cr.nm up p4).2.2
    rw [op] at np
    refine wp_and someN (wp_and someN ?_)
    have k := fun len el => acc_48 (len := len) hN cr hn hl hu up uq ua p4 q4 op ok oq dl dB ea y6 (by omega) (by rw [e1]; exact hno) el
    rw [ev _ eM] at k
    have l : (evH y ++ enB o ++ enB (some d)).length = 6 + (enB o).length + 33 := by
      rw [List.length_append, List.length_append]
      show 6 + (enB o).length + (d.length + 1) = _
      omega
    cases o with
    | none =>
      have np : cI s 5 p = nI 0 := np
      exact wp_pos (by rw [np]; rfl) (k 40 (by rw [l]; rfl))
    | some d1 =>
      have np : cI s 5 p = nI 1 := np.1
      refine wp_neg (by rw [np]; decide) (k 72 ?_)
      rw [l]
      show 72 = 6 + (d1.length + 1) + 33
      rw [(ok d1 rfl).1]
  refine wp_and ⟨someN, eb_.1⟩ ?_
  have q := eb_.2
  generalize k_X5_endsBelow N g H T s a (some b) = z at q ⊢
  unfold KO_X3_accuse_13 KF_X3_accuse_13
  rcases q with ⟨rfl, q2⟩ | ⟨rfl, q2⟩
  · refine wp_neg (by decide) (wp_pos rfl ?_)
    have n2 : ¬ evF (edM m) (edM y) := by
      rcases q2 with q2 | ⟨d, d', x1, x2, x3⟩
      · rintro (z | ⟨_, _, _, z, _⟩)
        · exact ne (z.trans q2.symm)
        · rw [q2] at z
          cases z
      · rintro (z | ⟨d2, d2', z1, z2, z3⟩)
        · rw [x2] at z
          cases z
        · rw [x2] at z1
          rw [x1] at z2
          cases z1
          cases z2
          exact lesD_irr x3 z3
    have v1 : ev1 m y = edM y := cif_neg n2
    have v2 : ev2 m y = edM m := cif_neg n2
    obtain ⟨d, ed⟩ : ∃ d, edM m = some d := by
      cases e : edM m with
      | some d => exact ⟨d, rfl⟩
      | none => exact absurd (Or.inl e) n2
    obtain ⟨dl, dB⟩ := km d ed
    refine go a b (edM y) d ua ub a4 b4 (by rw [ea]; exact iy) ky (by rw [eb, im]; exact ed) dl dB ?_
    unfold evM
    rw [v1, v2, hH, ed]
  · have p2 : evF (edM m) (edM y) := by
      by_cases c : edM m = none
      · exact Or.inl c
      · cases e : edM m with
        | none => exact absurd e c
        | some d =>
          cases e' : edM y with
          | none => exact absurd (Or.inl e') q2
          | some d' =>
            obtain ⟨l1, _⟩ := km d e
            obtain ⟨l2, _⟩ := ky d' e'
            refine Or.inr ⟨d, d', rfl, rfl, lesD_tot l2 l1 (fun z => ne (by rw [e, e', z])) (fun z => q2 (Or.inr ⟨d', d, e', e, z⟩))⟩
    refine wp_pos rfl (wp_neg (fun z => nab (Option.some.inj z)) ?_)
    have v1 : ev1 m y = edM m := cif_pos p2
    have v2 : ev2 m y = edM y := cif_pos p2
    obtain ⟨d, ed⟩ : ∃ d, edM y = some d := by
      cases e : edM y with
      | some d => exact ⟨d, rfl⟩
      | none => exact absurd (Or.inl e) q2
    obtain ⟨dl, dB⟩ := ky d ed
    refine go b a (edM m) d ub ua b4 a4 (by rw [eb]; exact im) km (by rw [ea, iy]; exact ed) dl dB ?_
    unfold evM
    rw [v1, v2, hH, ed]
end
end
