section
/-! CALLS OF THE CLASS: a block on the tape is sealed, all of it -/
section
variable {F N g H T n k : Nat} {s s0 s1 S X : cS} {ct : Nat → List Nat} {hd : List Nat} {w w' V W : Wd} {pe : Nat → Int} {a b p : Nat} {l m d : List Nat} {x y u v : Int32}
theorem laB_bg {i : Nat} (h : i < l.length) : bg (laB l a d) i = if a ≤ i ∧ i < a + d.length then bg d (i - a) else bg l i := by
  unfold laB
  rw [mkB_in h]
/-- bytes are laid onto the tape -/
theorem kTp.lay {f : Nat → Int32} (h : kTp g S l) (hd : isB d) (row : ∀ i, i < l.length → f i = if a ≤ i ∧ i < a + d.length then sb (bg d (i - a)) else cA S (g + 1) i) : kTp g (csArow S (g + 1) f) (laB l a d) := by
  obtain ⟨t1, t2, t3, t4⟩ := h
  refine ⟨by rw [laB_len]; exact t1, by rw [laB_len]; exact t2, laB_B a t3 hd, fun i hi => ?_⟩
  rw [laB_len] at hi
  rw [cA_same, row i hi, laB_bg hi]
  split
  · rfl
  · exact t4 i hi
theorem laB_comm {c e : Nat} {A B : List Nat} (h : c + A.length ≤ e ∨ e + B.length ≤ c) : laB (laB l c A) e B = laB (laB l e B) c A := by
  refine by_ext (by rw [laB_len, laB_len, laB_len, laB_len]) (fun i hi => ?_)
  rw [laB_len, laB_len] at hi
  rw [laB_bg (l := laB l c A) (a := e) (d := B) (i := i) (by rw [laB_len]; exact hi), laB_bg (l := laB l e B) (a := c) (d := A) (i := i) (by rw [laB_len]; exact hi), laB_bg hi, laB_bg hi]
  by_cases c1 : e ≤ i ∧ i < e + B.length
  · rw [if_pos c1, if_neg (by omega), if_pos c1]
  · rw [if_neg c1, if_neg c1]
/-- last id and root of a node's accounts are laid down -/
theorem seal_131 {M : Nat} {L : List Nat} (cr : CR F g H T s ct [] w (fun _ => -1)) (b5 : bF g H s) (ha : a + 101 ≤ (wL w).length) (hL : seLy w H a x (wL w) L) : wp (KO_X11_seal_131 N g H T g (nI a) x (nI M) s) (KF_X11_seal_131 N g H T g (nI a) x (nI M) s) (fun z => z.1 = nI M ∧ clW F g H T z.2 (sL w L)) := by
  have cb := cr.1.bb
  have tp := cr.2.2.2.2.2.2.2.1
  have t2 := tp.2.1
  have tL := tape_L cr.2.1
  unfold KO_X11_seal_131 KF_X11_seal_131
  rcases hL with ⟨n, hn, rfl, hL⟩ | ⟨no, hL⟩
  · obtain ⟨o1, o2⟩ := honest_y (N := N) cr hn
    obtain ⟨q1, q2, y, q3, q4, q5, q6⟩ := (cr.node hn).2.2.2.2.2.1
    have rt : ∀ i, i < 32 → cA s (nd g n + 6 + 3) i = sb (bg (acR (bkN (wN w) n)) i) := fun i hi => by
      rcases q2 with q2 | ⟨_, q2⟩
      · rw [b5 n hn] at q2
        exact absurd q2 (by decide)
      · rw [q2 i hi, acR_cg (vB_N (w := w) (n := n))]
    have lr : (acR (bkN (wN w) n)).length = 32 := rootP_len _
    have iR : isB (acR (bkN (wN w) n)) := rootP_B _
    rw [o2, zsome, n_add, show (nI 0).toNatClampNeg = 0 from rfl, show (nI 32).toNatClampNeg = 32 from rfl, n_clamp (by omega)]
    refine wp_and o1 (wp_neg someN (wp_and ⟨⟨by decide, n_lt0 (by omega), by decide⟩, by decide, by omega⟩ ?_))
    have k11 : cK s (nd g n + 11) = 20 := (cr.2.1.rk (c := 5) (k := 5) (isO5 hn) rfl (by omega)) _ rfl
    have k9 : cK s (nd g n + 6 + 3) = 20 := (cr.2.1.rk (c := 0) (k := 3) (Or.inl ⟨rfl, Or.inr (Or.inr ⟨n, hn, rfl⟩)⟩) rfl (by omega)) _ rfl
    have r1 : ∀ i, va_cpy (cA s (nd g n + 11)) (cA s (g + 1)) 0 (a + 3) 32 i = if a + 3 ≤ i ∧ i < a + 3 + 32 then cA s (nd g n + 11) (i - (a + 3)) else cA s (g + 1) i := fun i => by
      unfold va_cpy
      split
      · rw [Nat.zero_add]
      · rfl
    have T1 : kTp g (csArow s (g + 1) (va_cpy (cA s (nd g n + 11)) (cA s (g + 1)) 0 (a + 3) 32)) (laB (wL w) (a + 3) y) := tp.lay q5 (fun i hi => by
      rw [r1 i, q4]
      by_cases c : a + 3 ≤ i ∧ i < a + 3 + 32
      · rw [if_pos c, if_pos c]
        exact q6 _ (by omega)
      · rw [if_neg c, if_neg c])
    have S1 : St 0 g H T (csArow s (g + 1) (va_cpy (cA s (nd g n + 11)) (cA s (g + 1)) 0 (a + 3) 32)) := cr.2.1.Ar _ _ (fun _ i => by
      rw [r1 i]
      split
      · exact cr.2.1.b8 k11 _
      · exact cr.2.1.b8 tL.2.1 _)
    have f1 : cfr (fun b => b = g + 1) s (csArow s (g + 1) (va_cpy (cA s (nd g n + 11)) (cA s (g + 1)) 0 (a + 3) 32)) := cfr_A _ _ _
    have A1 : cA (csArow s (g + 1) (va_cpy (cA s (nd g n + 11)) (cA s (g + 1)) 0 (a + 3) 32)) (nd g n + 6 + 3) = cA s (nd g n + 6 + 3) := cA_other _ _ (by unfold nd; omega)
    have K1 : cK (csArow s (g + 1) (va_cpy (cA s (nd g n + 11)) (cA s (g + 1)) 0 (a + 3) 32)) (nd g n + 6 + 3) = 20 := k9
    generalize csArow s (g + 1) (va_cpy (cA s (nd g n + 11)) (cA s (g + 1)) 0 (a + 3) 32) = s2 at T1 S1 f1 A1 K1 ⊢
    have tL2 := tape_L S1
    unfold KO_X11_seal_161 KF_X11_seal_161 KO_X11_seal_183 KF_X11_seal_183
    rw [zsome, n_add, show (nI 0).toNatClampNeg = 0 from rfl, show (nI 32).toNatClampNeg = 32 from rfl, n_clamp (by omega)]
    have r2 : ∀ i, va_cpy (cA s2 (nd g n + 6 + 3)) (cA s2 (g + 1)) 0 (a + 35) 32 i = if a + 35 ≤ i ∧ i < a + 35 + 32 then cA s2 (nd g n + 6 + 3) (i - (a + 35)) else cA s2 (g + 1) i := fun i => by
      unfold va_cpy
      split
      · rw [Nat.zero_add]
      · rfl
    refine wp_and someN (wp_and ⟨⟨by decide, n_lt0 (by omega), by decide⟩, by decide, by omega⟩ (wp_fin trivial ⟨rfl, ?_⟩))
    have T2 : kTp g (csArow s2 (g + 1) (va_cpy (cA s2 (nd g n + 6 + 3)) (cA s2 (g + 1)) 0 (a + 35) 32)) (laB (laB (wL w) (a + 3) y) (a + 35) (acR (bkN (wN w) n))) := T1.lay iR (fun i hi => by
      rw [r2 i, lr]
      by_cases c : a + 35 ≤ i ∧ i < a + 35 + 32
      · rw [if_pos c, if_pos c, A1]
        exact rt _ (by omega)
      · rw [if_neg c, if_neg c])
    have S2 : St 0 g H T (csArow s2 (g + 1) (va_cpy (cA s2 (nd g n + 6 + 3)) (cA s2 (g + 1)) 0 (a + 35) 32)) := S1.Ar _ _ (fun _ i => by
      rw [r2 i]
      split
      · exact S1.b8 K1 _
      · exact S1.b8 tL2.2.1 _)
    have eL : L = laB (laB (wL w) (a + 3) y) (a + 35) (acR (bkN (wN w) n)) := by
      rw [hL]
      unfold seH
      rw [q3]
      rfl
    rw [eL]
    exact clW.tp cr b5 (f1.trans (cfr_A _ _ _)) (fun b z => Or.inr (Or.inl z)) S2 T2
  · obtain ⟨o1, o2⟩ := honest_n (N := N) cr no
    rw [o2, hL]
    unfold KO_X11_seal_183 KF_X11_seal_183
    exact wp_and o1 (wp_pos rfl (wp_fin trivial ⟨rfl, clW.tp (P := fun _ => False) cr b5 cfr.refl (fun b z => absurd z id) cr.2.1 tp⟩))
/-- counts and root are laid down -/
theorem seal_55 {L : List Nat} {ps : List (List Nat)} (hN : 12000 ≤ N) (cr : CR F g H T s ct [] w (fun _ => -1)) (b5 : bF g H s) (hp : a + 101 ≤ p) (hpn : p ≤ n) (hn : n ≤ (wL w).length) (he : bg (wL w) (a + 100) ≤ 2) (hz : evZ (wL w) n (a + 101) (bg (wL w) (a + 100)) = some (ps, p)) (hL : seLy w H a x (seAl (wL w) ps p n a) L) : wp (KO_X11_seal_55 N g H T g (nI a) (nI n) x (nI p) s) (KF_X11_seal_55 N g H T g (nI a) (nI n) x (nI p) s) (fun z => z.1 = nI (seM p n) ∧ clW F g H T z.2 (sL w L)) := by
  have cb := cr.1.bb
  have tp := cr.2.2.2.2.2.2.2.1
  have t2 := tp.2.1
  have tL := tape_L cr.2.1
  obtain ⟨M, hM⟩ : ∃ M, M = seM p n := ⟨_, rfl⟩
  have M64 : M ≤ 64 ∧ p + 7 * M ≤ n := by
    rw [hM]
    unfold seM
    split <;> omega
  have eM : (if ((nI n - nI p) / (nI 7)) < (nI 64) then ((nI n - nI p) / (nI 7)) else (nI 64)) = nI M := by
    rw [n_sub hpn, n_div' (by omega) (by omega), hM]
    unfold seM
    by_cases c : 64 ≤ (n - p) / 7
    · rw [if_neg (by rw [n_lt' (by omega) (by omega)]; omega), if_pos c]
    · rw [if_pos (by rw [n_lt' (by omega) (by omega)]; omega), if_neg c]
  have eb : ((nI M).toInt8.toInt32).toInt8.toInt32 = sb M := by
    rw [b88]
    rfl
  unfold KO_X11_seal_55 KF_X11_seal_55
  rw [eM, n_add, n_clamp (by omega), eb]
  have T1 : kTp g (csA s (g + 1) (a + 99) (sb M)) (laB (wL w) (a + 99) [M]) := tp.lay (isB_c (by omega) (fun i => by rw [bg_out (by simp)]; decide)) (fun i hi => by
    show upd (cA s (g + 1)) (a + 99) (sb M) i = if a + 99 ≤ i ∧ i < a + 99 + 1 then sb (bg [M] (i - (a + 99))) else _
    by_cases c : i = a + 99
    · rw [c, upd_same, if_pos (by omega), Nat.sub_self]
      rfl
    · rw [upd_other _ _ c, if_neg (by omega)])
  have S1 : St 0 g H T (csA s (g + 1) (a + 99) (sb M)) := cr.2.1.Ar _ _ (fun _ i => by
    by_cases c : i = a + 99
    · rw [c, upd_same]
      exact sb_b8 _
    · rw [upd_other _ _ c]
      exact cr.2.1.b8 tL.2.1 _)
  have f1 : cfr (fun b => b = g + 1) s (csA s (g + 1) (a + 99) (sb M)) := cfr_A _ _ _
  generalize csA s (g + 1) (a + 99) (sb M) = s1 at T1 S1 f1 ⊢
  have tL1 := tape_L S1
  obtain ⟨u1, u2, u3, u4⟩ := T1
  rw [laB_len] at u1 u2
  have g2 : ∀ i, i < (wL w).length → i ≠ a + 99 → bg (laB (wL w) (a + 99) [M]) i = bg (wL w) i := fun i hi c => by
    rw [laB_bg hi, if_neg (show ¬ (a + 99 ≤ i ∧ i < a + 99 + [M].length) from fun z => by have z2 : i < a + 99 + 1 := z.2; omega)]
  have g99 : bg (laB (wL w) (a + 99) [M]) (a + 99) = M := by
    rw [laB_bg (by omega), if_pos (show a + 99 ≤ a + 99 ∧ a + 99 < a + 99 + [M].length from ⟨Nat.le_refl _, Nat.lt_succ_self _⟩), Nat.sub_self]
    rfl
  -- the block
  obtain ⟨B, hB⟩ : ∃ B, B = sl (laB (wL w) (a + 99) [M]) a (p - a + 7 * M) := ⟨_, rfl⟩
  have lB : B.length = p - a + 7 * M := by rw [hB, sl_len]
  have bB : ∀ i, i < B.length → bg B i = bg (laB (wL w) (a + 99) [M]) (a + i) := fun i hi => by
    rw [lB] at hi
    rw [hB, sl_in hi]
  have b100 : bg B 100 = bg (wL w) (a + 100) := by rw [bB 100 (by omega), g2 _ (by omega) (by omega)]
  have b99 : bg B 99 = M := by rw [bB 99 (by omega), g99]
  have iB : isB B := fun i => by
    by_cases c : i < B.length
    · rw [bB i c]
      exact u3 _
    · rw [bg_out (by omega)]
      decide
  have wk := ev_walk (B := B) hz (show p ≤ a + B.length by omega) (fun i h1 h2 => by rw [bB i h2, g2 _ (by omega) (by omega)])
  obtain ⟨q, q1, q2, q3, -⟩ := wk _ (Nat.le_refl _)
  rw [hz] at q1
  cases q1
  have q2 : p = a + evP B (bg (wL w) (a + 100)) := q2
  have q3 : ps = evL B (bg (wL w) (a + 100)) := q3
  have pp : ∀ k, pyP B k = p - a + 7 * k := fun k => by
    unfold pyP
    rw [b100]
    omega
  have parts : partsB B = ps ++ seQ (wL w) p M := by
    unfold partsB
    rw [b100, b99, ← q3]
    congr 1
    unfold pyL seQ
    refine List.map_congr_left (fun i hi => ?_)
    have hi := List.mem_range.1 hi
    rw [pp i]
    unfold sl
    refine mkB_congr (fun j hj => ?_)
    rw [bB _ (by omega), g2 _ (by omega) (by omega), show a + (p - a + 7 * i + j) = p + 7 * i + j by omega]
  have hR := S1.row tL1.2.1 (by omega)
  obtain ⟨R, hRe⟩ : ∃ R, R = mkB (cL s1 (g + 1)) (fun i => nb (cA s1 (g + 1) i)) := ⟨_, rfl⟩
  rw [← hRe] at hR
  have Rl : R.length = 1000 := by rw [hRe, mkB_len]; exact tL1.1
  have rB : ∀ i, i < (wL w).length → bg R i = bg (laB (wL w) (a + 99) [M]) i := fun i hi => by
    have e1 := hR.2.2.1 i (by omega)
    rw [u4 i (by rw [laB_len]; exact hi)] at e1
    exact ((sb_inj (u3 i) (hR.2.2.2 i)).1 e1).symm
  have hat : atR s1 (g + 1) a R B := by
    refine ⟨hR, by omega, by omega, fun i hi => by rw [rB _ (by omega), bB i hi], by omega, by omega, by omega, by rw [pp, b99]; omega, fun k hk => ?_⟩
    rw [b100] at hk
    obtain ⟨q, w1, w2, w3, w4⟩ := wk k (by omega)
    obtain ⟨v1, v2, v3⟩ := w4 hk
    have v3 : q.2 + evT (wL w) n q.2 ≤ p := v3
    have tle := evT_le (wL w) n q.2
    have lo := (evP_le B k).1
    have same : ∀ j, j < 39 → q.2 + j < n → bg R (a + evP B k + j) = bg (wL w) (q.2 + j) := fun j hj hj2 => by
      rw [rB _ (by omega), g2 _ (by omega) (by omega), w2]
    rw [← v1]
    unfold evC
    unfold evT at v2 tle v3 ⊢
    by_cases c : bg (wL w) (q.2 + 5) = 0 ∧ q.2 + 39 ≤ n ∧ bg (wL w) (q.2 + 6) = 1
    · rw [same 5 (by decide) (by omega), same 6 (by decide) (by omega), if_pos c, if_pos ⟨by omega, c.1, c.2.2⟩]
      rfl
    · rw [if_neg c] at v2 ⊢
      by_cases d : bg (wL w) (q.2 + 5) = 1 ∧ q.2 + 71 ≤ n ∧ bg (wL w) (q.2 + 38) = 1
      · rw [same 5 (by decide) (by omega), same 38 (by decide) (by omega), if_pos d, if_neg (by omega), if_pos ⟨by omega, d.1, d.2.2⟩]
        rfl
      · rw [if_neg d] at v2
        exact absurd rfl v2
  obtain ⟨z1, z2, z3, y1, e1, y2, e2, y3, e3, fr, r3, r4, S3⟩ := rootC (N := N) (d := g + 1) (at_ := a + 67) (x2 := some (g + 1)) (x3 := nI a) (by omega) S1 tL1.2.1 (by unfold isH; omega) hat iB tL1.2.1 (by unfold isH; omega) (by omega) (by omega) (tK_some tL1.2.1)
  refine wp_and ((n_in (by omega)).2 (by omega)) (wp_and y1 ?_)
  unfold KO_X11_seal_96 KF_X11_seal_96
  rw [e1, e2]
  refine wp_and y2 ?_
  unfold KO_X11_seal_112 KF_X11_seal_112
  rw [n_add, e3]
  refine wp_and y3 ?_
  have T3 : kTp g z3 (seAl (wL w) ps p n a) := by
    unfold seAl
    rw [← hM, ← parts, laB_comm (Or.inl (by rw [rootP_len]; omega))]
    have lR := rootP_len (partsB B)
    refine ⟨?_, by rw [laB_len, laB_len]; exact t2, laB_B _ u3 (rootP_B _), fun i hi => ?_⟩
    · rw [laB_len, laB_len, fr.I 3 g (by unfold isH; omega)]
      exact u1
    · rw [laB_len, laB_len] at hi
      rw [laB_bg (by rw [laB_len]; exact hi), lR]
      by_cases c : a + 67 ≤ i ∧ i < a + 67 + 32
      · rw [if_pos c]
        have := r3 (i - (a + 67)) (by omega)
        rw [show a + 67 + (i - (a + 67)) = i by omega] at this
        exact this
      · rw [if_neg c, r4 i (by omega)]
        exact u4 i (by rw [laB_len]; exact hi)
  have fa : cfr (fun b => isH (g + 3) b ∨ b = g + 1) s z3 := (f1.mono (fun b z => Or.inr z)).trans fr
  have cl := clW.tp cr b5 fa (fun b z => by unfold isH at z; omega) S3 T3
  obtain ⟨ct3, c3, b3⟩ := cl
  have lS : (seAl (wL w) ps p n a).length = (wL w).length := by
    unfold seAl
    rw [laB_len, laB_len]
  have := seal_131 (N := N) (M := M) (x := x) (a := a) (L := L) c3 b3 (by show a + 101 ≤ (seAl (wL w) ps p n a).length; omega) hL
  rw [hM] at this
  rw [hM]
  exact this
theorem seal_C {W : Wd} (hN : 12000 ≤ N) (h : clW F g H T s w) (iv : IV F H T w) (hv : (∃ a n L, a + 101 ≤ n ∧ n ≤ (wL w).length ∧ x = nI a ∧ y = nI n ∧ seLy w H a u (seAl (seZ (wL w) a n).2.2 (seZ (wL w) a n).1 (seZ (wL w) a n).2.1 n a) L ∧ W = sL w L ∧ v = nI (seM (seZ (wL w) a n).2.1 n)) ∨ ((¬ ∃ a n, a + 101 ≤ n ∧ n ≤ (wL w).length ∧ x = nI a ∧ y = nI n) ∧ W = w ∧ v = -1)) : wp (p_X11_seal N g H T s g x y u) (k_X11_seal N g H T s g x y u) (fun z => z.1 = v ∧ clW F g H T z.2 W ∧ IV F H T W) := by
  have h' := h
  obtain ⟨ct, cr, b5⟩ := h'
  have tp := cr.2.2.2.2.2.2.2.1
  have t1 := tp.1
  have t2 := tp.2.1
  have tL := tape_L cr.2.1
  show wp (KO_X11_seal_0 N g H T g x y u s) (KF_X11_seal_0 N g H T g x y u s) _
  unfold KO_X11_seal_0 KF_X11_seal_0 KO_X11_seal_24 KF_X11_seal_24
  have no : (¬ ∃ a n, a + 101 ≤ n ∧ n ≤ (wL w).length ∧ x = nI a ∧ y = nI n) → (((-1 : Int32), s) : Int32 × cS).1 = v ∧ clW F g H T (((-1 : Int32), s) : Int32 × cS).2 W ∧ IV F H T W := fun z => by
    rcases hv with ⟨a, n, L, q1, q2, q3, q4, _⟩ | ⟨_, q2, q3⟩
    · exact absurd ⟨a, n, q1, q2, q3, q4⟩ z
    · rw [q2, q3]
      exact ⟨rfl, h, iv⟩
  rw [t1]
  refine wp_ite (fun c => wp_fin trivial (no ?_)) (fun c => ?_)
  · rintro ⟨a, n, q1, q2, q3, q4⟩
    rw [q3] at c
    exact n_lt0 (by omega) c
  obtain ⟨a, ha, rfl⟩ := i_nat c
  refine wp_ite (fun c => wp_fin trivial (no ?_)) (fun c => ?_)
  · rintro ⟨a', n, q1, q2, q3, q4⟩
    rw [q4] at c
    exact n_lt0 (by omega) c
  obtain ⟨n, hn, rfl⟩ := i_nat c
  refine wp_ite (fun c => wp_fin trivial (no ?_)) (fun c3 => ?_)
  · rintro ⟨a', n', q1, q2, q3, q4⟩
    rw [q4, n_lt' (by omega) (by omega)] at c
    omega
  rw [n_lt' (by omega) hn] at c3
  have lq : nI 101 ≤ nI n - nI a ↔ a + 101 ≤ n := by
    rw [← iI_n, ← iI_n, ← iI_n, iI_sub, iI_le (by omega) (by omega) (by omega) (by omega)]
    omega
  refine wp_ite (fun c4 => ?_) (fun c4 => wp_fin trivial (no ?_)) <;> rw [lq] at c4
  rotate_left
  · rintro ⟨a', n', q1, q2, q3, q4⟩
    have := n_inj ha (by omega) q3
    have := n_inj hn (by omega) q4
    omega
  obtain ⟨L, hL, hW⟩ : ∃ L, seLy w H a u (seAl (seZ (wL w) a n).2.2 (seZ (wL w) a n).1 (seZ (wL w) a n).2.1 n a) L ∧ W = sL w L ∧ v = nI (seM (seZ (wL w) a n).2.1 n) := by
    rcases hv with ⟨a', n', L, q1, q2, q3, q4, q5⟩ | ⟨q, _⟩
    · have := n_inj ha (by omega) q3
      subst this
      have := n_inj hn (by omega) q4
      subst this
      exact ⟨L, q5⟩
    · exact absurd ⟨a, n, c4, by omega, rfl, rfl⟩ q
  rw [hW.1, hW.2]
  have bh := behind_c (N := N) (g := g) (H := H) (T := T) (a := a) (n := n) (by omega) (tape_B cr) tL.1 c4 (by omega) t2
  refine wp_and bh.1 ?_
  rcases bh.2 with ⟨z, z1, z2, z3⟩ | ⟨z1, z2⟩
  · have eZ : seZ (wL w) a n = (z.1, z.2, wL w) := by
      unfold seZ
      rw [z1]
    rw [eZ] at hL ⊢
    have e2 : bg (wL w) (a + 100) ≤ 2 := by
      by_cases q : bg (wL w) (a + 100) ≤ 2
      · exact q
      · rw [if_neg q] at z1
        cases z1
    rw [if_pos e2] at z1
    have lo : a + 101 ≤ z.2 := evZ_mono (j := 0) (q := ([], a + 101)) rfl (bg (wL w) (a + 100)) z (by rw [Nat.zero_add]; exact z1)
    rw [z2]
    refine wp_pos (by rw [show (0 : Int32) = nI 0 from rfl, n_le' (by omega) (by omega)]; omega) (wp_mono (seal_55 (ps := z.1) hN cr b5 lo z3 (by omega) e2 z1 hL) (fun q => ⟨q.1, q.2, iv.tape⟩))
  · have eZ : seZ (wL w) a n = ([], a + 101, laB (wL w) (a + 100) [0]) := by
      unfold seZ
      rw [z1]
    rw [eZ] at hL ⊢
    rw [z2, n_add, n_add, n_clamp (by omega), show (nI 0).toInt8.toInt32 = sb 0 from rfl]
    refine wp_neg (by decide) (wp_and ((n_in (by omega)).2 (by omega)) ?_)
    have T1 : kTp g (csA s (g + 1) (a + 100) (sb 0)) (laB (wL w) (a + 100) [0]) := tp.lay (isB_c (by omega) (fun i => by rw [bg_out (by simp)]; decide)) (fun i hi => by
      show upd (cA s (g + 1)) (a + 100) (sb 0) i = if a + 100 ≤ i ∧ i < a + 100 + 1 then sb (bg [0] (i - (a + 100))) else _
      by_cases c : i = a + 100
      · rw [c, upd_same, if_pos (by omega), Nat.sub_self]
        rfl
      · rw [upd_other _ _ c, if_neg (by omega)])
    have S1 : St 0 g H T (csA s (g + 1) (a + 100) (sb 0)) := cr.2.1.Ar _ _ (fun _ i => by
      by_cases c : i = a + 100
      · rw [c, upd_same]
        exact sb_b8 _
      · rw [upd_other _ _ c]
        exact cr.2.1.b8 tL.2.1 _)
    obtain ⟨ct1, c1, b1⟩ := clW.tp cr b5 (cfr_A s (g + 1) _) (fun b z => Or.inr (Or.inl z)) S1 T1
    have e0 : bg (laB (wL w) (a + 100) [0]) (a + 100) = 0 := by
      rw [laB_bg (by omega), if_pos (show a + 100 ≤ a + 100 ∧ a + 100 < a + 100 + [0].length from ⟨Nat.le_refl _, Nat.lt_succ_self _⟩), Nat.sub_self]
      rfl
    have := seal_55 (N := N) (x := u) (a := a) (n := n) (p := a + 101) (ps := []) (L := L) hN c1 b1 (Nat.le_refl _) c4 (by show n ≤ (laB (wL w) (a + 100) [0]).length; rw [laB_len]; omega) (by show bg (laB (wL w) (a + 100) [0]) (a + 100) ≤ 2; omega) (by show evZ (laB (wL w) (a + 100) [0]) n (a + 101) (bg (laB (wL w) (a + 100) [0]) (a + 100)) = _; rw [e0]; rfl) hL
    exact wp_mono this (fun q => ⟨q.1, q.2, iv.tape⟩)
end
end
