section
/-! THE CLASS'S TICK: the clock, a timer off -/
section
variable {F N g H T n : Nat} {s s0 S : cS} {ct : Nat → List Nat} {hd : List Nat} {w w' V X : Wd} {pe pe' : Nat → Int} {t f k r : Nat} {G : Gh}
theorem CR.tk (h : CR F g H T s ct hd w pe) : CR F g H T (csI s 10 (g + 11) (nI (wT w + 1))) ct hd (sT w (wT w + 1)) pe := by
  obtain ⟨h1, st, h3, h4, h5, e1, e2, e3, e4, e5, e6⟩ := h
  have f : cfr (fun b => b = g + 11) s (csI s 10 (g + 11) (nI (wT w + 1))) := cfr_I _ _ _ _
  have lP : ∀ b, b = g + 11 → b < nd g H := fun b hb => by unfold nd; omega
  have I : ∀ k b, (k ≠ 10 ∨ b ≠ g + 11) → cI (csI s 10 (g + 11) (nI (wT w + 1))) k b = cI s k b := fun k b hb => cI_other _ _ hb
  refine ⟨h1, st.I _ _ _, h3, h4.cf f lP, h5.fr rfl rfl rfl rfl (fun _ _ => rfl), ?_, ?_, ?_, ?_, e5, fun m hm => ?_⟩
  · unfold kFx
    rw [I _ _ (Or.inl (by decide)), I _ _ (Or.inl (by decide)), I _ _ (Or.inl (by decide)), I _ _ (Or.inl (by decide)), I _ _ (Or.inl (by decide))]
    exact e1
  · obtain ⟨a1, a2, a3, a4⟩ := e2
    refine ⟨?_, by rw [I _ _ (Or.inl (by decide))]; exact a2, by rw [I _ _ (Or.inl (by decide))]; exact a3, cI_same _ _ _ _⟩
    unfold cSkT
    rw [I _ _ (Or.inl (by decide)), I _ _ (Or.inl (by decide))]
    exact a1
  · unfold kTp
    rw [I _ _ (Or.inl (by decide))]
    exact e3
  · unfold kLa bkC rtC
    rw [I _ _ (Or.inl (by decide)), I _ _ (Or.inl (by decide))]
    exact e4
  · exact (e6 m hm).fx ⟨Nat.le_refl _, fun _ _ => ⟨rfl, rfl⟩, fun k o _ _ => I _ _ (Or.inr (by unfold nd; omega)), fun _ _ => rfl, fun _ _ _ => rfl, fun _ _ _ => ⟨rfl, rfl⟩, fun _ _ _ _ _ _ _ _ => rfl⟩
theorem CR.off (h : CR F g H T s ct hd w pe) (hn : n < H) (hu : wN w n 0 = 1) (ht : t < 3) : CR F g H T (csA s (nd g n + 12) t (nI 0)) ct hd (sN w n (9 + t) (-1)) pe := by
  have q := (h.node hn).2.1
  obtain ⟨z, cz, oz⟩ := h.z_ hn
  have b1 := cz.tm (f := upd (cA s (nd g n + 12)) t (nI 0)) (v' := fun j => if j = 9 + t then (-1 : Int) else wN w n j) hn (fun i hi => ?_) (fun j hj => if_neg (by omega))
  · rw [sN_V]
    exact b1.cr (owZ_up oz hu ((if_neg (by omega)).trans hu) (fun _ _ _ => rfl)) (fun m hm => ⟨sV_o hm, rfl, rfl, rfl⟩) rfl rfl rfl (fun m hm => rfl) rfl sV_n rfl rfl rfl
  · show upd (cA s (nd g n + 12)) t (nI 0) i = iI (tmC (if 9 + i = 9 + t then (-1 : Int) else wN w n (9 + i)))
    by_cases c : i = t
    · rw [c, upd_same, if_pos rfl]
      rfl
    · rw [if_neg (by omega)]
      have e : upd (cA s (nd g n + 12)) t (nI 0) i = cA s (nd g n + 12) i := if_neg c
      rw [e]
      exact q i hi
/-- what holds of all nodes between rules -/
def wA (F H T : Nat) (w : Wd) : Prop := GK F H T w ∧ (∀ n, n < H → pz w n) ∧ ∀ n, n < H → tz w n
theorem wA.step (h : wA F H T w) (f : wfr n w w') (g' : GK F H T w') (p : pxf n w w') (q : tzf n w w') : wA F H T w' := by
  refine ⟨g', fun m hm => ?_, fun m hm => ?_⟩
  · by_cases c : m = n
    · rw [c] at hm ⊢
      exact p (h.2.1 n hm)
    · obtain ⟨a1, a2, a3, a4⟩ := f.1 m c
      have := h.2.1 m hm
      unfold pz chO at this ⊢
      rw [a1, a2, a3]
      exact this
  · by_cases c : m = n
    · rw [c] at hm ⊢
      exact q (h.2.2 n hm)
    · obtain ⟨a1, a2, a3, a4⟩ := f.1 m c
      have := h.2.2 m hm
      unfold tz at this ⊢
      rw [a1]
      exact this
theorem tzf.off {k : Nat} (hk : k ≠ 1) : tzf n w (sN w n k (-1)) := by
  by_cases c : k = 11
  · rw [c]
    exact tzf.sm (N_o _ _ _ _ (by omega)) (Or.inr (N_s _ _ _ _))
  · exact tzf.N hk c
/-- all books are fresh -/
def bF (g H : Nat) (s : cS) : Prop := ∀ m, m < H → cI s 5 (nd g m + 6) = nI 0
theorem bF.six (h : bF g H s) (x : m6 g H n s S) (e : cI S 5 (nd g n + 6) = nI 0) : bF g H S := fun m hm => by
  by_cases c : m = n
  · rw [c]
    exact e
  · rw [x m hm c]
    exact h m hm
theorem tk_down {e : Nat} {j : Nat} (h : wN (aTk3 T F n (e, w) j).2 n 0 ≠ 1) : ∀ d, aTk3 T F n (e, w) (j + d) = aTk3 T F n (e, w) j
  | 0 => rfl
  | d + 1 => by
    show aTk1 T F n (aTk3 T F n (e, w) (j + d)) (j + d) = _
    rw [tk_down h d]
    unfold aTk1
    rw [if_neg (fun q => h q.1)]
theorem pass_35 {e : Nat} {t0 : Int} (hN : 12000 ≤ N) (h : CR F g H T s ct hd w pe) (hn : n < H) (hl : hd.length ≤ 25) (hp : pe n = -1) (wa : wA F H T w) (tm : tmO t0 w n) (ht0 : t0 + 1 = wT w) (ht1 : 0 ≤ t0) (h9 : wT w < 900000) (fr : bF g H s) : wp (KOL_X10_passTime_35 N g H T N (g + 8) (nI e) (nI n) (some (nd g n)) (nI 0) s) (KL_X10_passTime_35 N g H T N (g + 8) (nI e) (nI n) (some (nd g n)) (nI 0) s) (fun Z => Z.2.1 = g + 8 ∧ Z.2.2.1 = nI (aTk3 T F n (e, w) 3).1 ∧ Z.2.2.2.1 = nI n ∧ reC F g H T ct hd (aTk3 T F n (e, w) 3).2 pe Z.2.2.2.2 ∧ wA F H T (aTk3 T F n (e, w) 3).2 ∧ wfr n w (aTk3 T F n (e, w) 3).2 ∧ bF g H Z.2.2.2.2) := by
  refine wp_loop (K := 3) (fun j (y : cS) => reC F g H T ct hd (aTk3 T F n (e, w) j).2 pe y ∧ wA F H T (aTk3 T F n (e, w) j).2 ∧ wfr n w (aTk3 T F n (e, w) j).2 ∧ tmO t0 (aTk3 T F n (e, w) j).2 n ∧ bF g H y) (fun q j y => KOL_X10_passTime_35 N g H T q (g + 8) (nI (aTk3 T F n (e, w) j).1) (nI n) (some (nd g n)) (nI j) y) (fun q j y => KL_X10_passTime_35 N g H T q (g + 8) (nI (aTk3 T F n (e, w) j).1) (nI n) (some (nd g n)) (nI j) y) (fun q j y hj hI ih => ?_) 0 N s (by omega) (by omega) ⟨h.re, wa, wfr.refl, tm, fr⟩
  unfold KOL_X10_passTime_35 KL_X10_passTime_35 KOB_X10_passTime_35 KB_X10_passTime_35
  by_cases e3 : j = 3
  · subst e3
    exact wp_pos (by rw [n_le' (by omega) (by omega)]; omega) (wp_fin trivial ⟨rfl, rfl, rfl, hI.1, hI.2.1, hI.2.2.1, hI.2.2.2.2⟩)
  obtain ⟨⟨ct', c1, cr⟩, a1, f1, t1, b1⟩ := hI
  have dn := tk_down (T := T) (F := F) (n := n) (e := e) (w := w) (j := j)
  have st : aTk3 T F n (e, w) (j + 1) = aTk1 T F n (aTk3 T F n (e, w) j) j := rfl
  have eT : wT (aTk3 T F n (e, w) j).2 = wT w := f1.2.1
  obtain ⟨⟨G, gi⟩, gks⟩ := id a1.1
  have gn := gi.2.1 n hn
  have g0 := gn.a.1
  have e8 : cI y 8 (nd g n) = nI (wN (aTk3 T F n (e, w) j).2 n 0).toNat := by
    rw [(cr.node hn).1.2.1, ← iI_n, Int.toNat_of_nonneg g0.1]
  have e10 : cI y 10 (g + 11) = nI (wT (aTk3 T F n (e, w) j).2) := cr.2.2.2.2.2.2.1.2.2.2
  have eA := (cr.node hn).2.1 j (by omega)
  rw [zsome, e8, n_clamp (by omega), e10, eA]
  refine wp_neg (by rw [n_le' (by omega) (by omega)]; omega) (wp_and someN (wp_ite (fun c => ?_) (fun c => ?_))) <;> rw [n_eq0 (by omega)] at c
  · have e4 := dn (by omega) (3 - j)
    rw [show j + (3 - j) = 3 by omega] at e4
    rw [e4]
    exact wp_fin trivial ⟨rfl, rfl, rfl, ⟨ct', c1, cr⟩, a1, f1, b1⟩
  have up : wN (aTk3 T F n (e, w) j).2 n 0 = 1 := by omega
  clear dn
  generalize aTk3 T F n (e, w) j = x at cr a1 f1 t1 st ih eT gi gks gn g0 e8 e10 eA c up ⊢
  have tj := t1 (9 + j) (by omega)
  refine wp_and ((n_in (by omega)).2 (by omega)) ?_
  by_cases rg : wN x.2 n (9 + j) ≠ -1 ∧ wN x.2 n (9 + j) ≤ wT x.2
  · have ev : wN x.2 n (9 + j) = (wT x.2 : Int) := by
      rcases tj with tj | tj
      · exact absurd tj rg.1
      · omega
    have eq : iI (tmC (wN x.2 n (9 + j))) = nI (wT x.2) := by
      unfold tmC
      rw [if_neg rg.1, ev, iI_n]
    have e1 : aTk3 T F n (e, w) (j + 1) = (x.1 + 1, aRules (aEnd (sN x.2 n (9 + j) (-1)) n T j) n T F) := by rw [st]; unfold aTk1; rw [if_pos ⟨up, rg⟩]
    have co := cr.off (t := j) hn up (by omega)
    have g2 := a1.1.off (k := 9 + j) hn (by omega)
    obtain ⟨g3, t3⟩ := g2.end_ (t := j) hn
    have u1 : wN (sN x.2 n (9 + j) (-1)) n 0 = wN x.2 n 0 := N_o _ _ _ _ (Or.inr (by omega))
    have p1 : pxf n x.2 (sN x.2 n (9 + j) (-1)) := pxf.N (by omega)
    have h1 : wN (sN x.2 n (9 + j) (-1)) n 1 = wN x.2 n 1 := N_o _ _ _ _ (Or.inr (by omega))
    obtain ⟨⟨G2, gi2⟩, gk2⟩ := id g2
    have fw : wfr n x.2 (aRules (aEnd (sN x.2 n (9 + j) (-1)) n T j) n T F) := ((wfr.N (by omega)).trans wfr.end_).trans wfr.rules
    have pf : pxf n x.2 (aRules (aEnd (sN x.2 n (9 + j) (-1)) n T j) n T F) := (p1.trans pxf.end_).trans (pxf.rules g3 hn)
    have tf : tzf n x.2 (aRules (aEnd (sN x.2 n (9 + j) (-1)) n T j) n T F) := ((tzf.off (by omega)).trans tzf.end_).trans (tzf.rules g3 hn)
    have ta := t1.tfr (tfr.off (k := 9 + j) (by omega)) up (by omega) (by omega)
    have tb : tmO t0 (aEnd (sN x.2 n (9 + j) (-1)) n T j) n := ta.tfr t3 (by rw [u1]; exact up) (by show t0 ≤ (wT x.2 : Int); omega) (by show wT x.2 < 900000; omega)
    have tc : tmO t0 (aRules (aEnd (sN x.2 n (9 + j) (-1)) n T j) n T F) n := by
      by_cases up2 : wN (aEnd (sN x.2 n (9 + j) (-1)) n T j) n 0 = 1
      · exact tb.tfr (tfr.rules g3 hn) up2 (by rw [wfr.end_.2.1]; show t0 ≤ (wT x.2 : Int); omega) (by rw [wfr.end_.2.1]; show wT x.2 < 900000; omega)
      · have : aRules (aEnd (sN x.2 n (9 + j) (-1)) n T j) n T F = aEnd (sN x.2 n (9 + j) (-1)) n T j := by
          unfold aRules
          rw [decide_eq_false up2, aRuns_no]
        rw [this]
        exact tb
    rw [eq]
    refine wp_pos rfl (wp_and ((n_in (by omega)).2 (by omega)) ?_)
    -- the timer ends
    have en : wp (p_X7_ring N g H T (csA y (nd g n + 12) j (nI 0)) (some (nd g n)) (nI j) ∧ p_X7_settle N g H T (k_X7_ring N g H T (csA y (nd g n + 12) j (nI 0)) (some (nd g n)) (nI j)) (some (nd g n))) (k_X7_settle N g H T (k_X7_ring N g H T (csA y (nd g n + 12) j (nI 0)) (some (nd g n)) (nI j)) (some (nd g n))) (fun s' => reC F g H T ct' hd (aRules (aEnd (sN x.2 n (9 + j) (-1)) n T j) n T F) pe s' ∧ m6 g H n (csA y (nd g n + 12) j (nI 0)) s' ∧ cI s' 5 (nd g n + 6) = nI 0) := by
      refine end_C hN (by omega) co hn hl gi2 (gk2 n hn) (by rw [u1]; exact up) (fun j2 => ?_) hp (p1 (a1.2.1 n hn))
      rw [h1]
      rcases a1.2.2 n hn with q | q
      · exact q
      · rw [j2] at rg
        exact absurd q rg.1
    obtain ⟨⟨en1, en2⟩, en3, en4, en5⟩ := en
    unfold KO_X10_passTime_82 KF_X10_passTime_82 KO_X10_passTime_86 KF_X10_passTime_86
    rw [n_add, n_add]
    have nx := ih (k_X7_settle N g H T (k_X7_ring N g H T (csA y (nd g n + 12) j (nI 0)) (some (nd g n)) (nI j)) (some (nd g n))) (by
      rw [e1]
      exact ⟨en3.mono c1, a1.step fw (g3.rules hn) pf tf, f1.trans fw, tc, b1.six (s := y) en4 en5⟩) (by omega)
    rw [e1] at nx
    exact wp_and en1 (wp_and en2 nx)
  · have ne : ¬ iI (tmC (wN x.2 n (9 + j))) = nI (wT x.2) := fun q => by
      unfold tmC at q
      rcases tj with tj | tj
      · rw [if_pos tj, ← iI_n, iI_eq (by omega) (by omega) (by omega) (by omega)] at q
        omega
      · rw [if_neg (by omega), ← iI_n, iI_eq (by omega) (by omega) (by omega) (by omega)] at q
        exact rg ⟨by omega, by omega⟩
    have e1 : aTk3 T F n (e, w) (j + 1) = x := by rw [st]; unfold aTk1; rw [if_neg (fun z => rg z.2)]
    unfold KO_X10_passTime_86 KF_X10_passTime_86
    rw [n_add, n_add]
    have nx := ih y (by
      rw [e1]
      exact ⟨⟨ct', c1, cr⟩, a1, f1, t1, b1⟩) (by omega)
    rw [e1] at nx
    exact wp_neg ne nx
end
end
