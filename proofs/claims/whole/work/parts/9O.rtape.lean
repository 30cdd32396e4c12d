section
/-! THE REFERENCE: the tape is fed, lies fly, payments are submitted -/
def fbB (x : Int32) (k : Nat) : Nat := nb (x >>> ((nI 24 - nI 8 * nI k) &&& 31))
def inB (x : Int32) : List Nat := [fbB x 0, fbB x 1, fbB x 2, fbB x 3]
theorem inB_B (x : Int32) : isB (inB x) := isB_cons (nb_spec _).1 (isB_cons (nb_spec _).1 (isB_cons (nb_spec _).1 (isB_cons (nb_spec _).1 isB_nil)))
theorem inB_bg (x : Int32) {k : Nat} (hk : k < 4) : bg (inB x) k = fbB x k := by
  rcases (show k = 0 ∨ k = 1 ∨ k = 2 ∨ k = 3 by omega) with e | e | e | e <;> rw [e] <;> rfl
theorem bg_take (l : List Nat) {n i : Nat} (h : i < n) : bg (l.take n) i = bg l i := by
  unfold bg
  rw [List.getD_eq_getElem?_getD, List.getD_eq_getElem?_getD, List.getElem?_take, if_pos h]
theorem isB_take {l : List Nat} (h : isB l) (n : Nat) : isB (l.take n) := fun i => by
  by_cases c : i < n
  · rw [bg_take l c]; exact h i
  · rw [bg_out (by rw [List.length_take]; omega)]; decide
section
variable {N n F H T : Nat} {S S1 : rS} {w : Wd} {m l : List Nat} {G : Gh}
theorem rRp.tape (h : rRp F H T S w) (f : rfr [21, 22] S S1) (ht : tpR S1 l) : rRp F H T S1 (sL w l) := by
  obtain ⟨c1, c2, c3, c4, c5, c6, c7, c8⟩ := h.co
  exact ⟨⟨c1, by rw [f.i 0 (by decide)]; exact c2, by rw [f.i 1 (by decide)]; exact c3, by rw [f.i 2 (by decide)]; exact c4, c5.fr f (by decide) (by decide), by rw [f.i 3 (by decide)]; exact c6, c7, ht⟩, h.sk.fr f (by decide), h.n.fr f (by decide), h.wh.fr f (by decide), h.x.fr f (by decide), h.l.fr f (by decide) (by decide) (by decide), h.hd.fr f (by decide) (by decide) (by decide) (by decide), h.v.fr f (by decide) (by decide) (by decide) (by decide) (by decide), h.d.fr f (by decide) (by decide) (by decide), h.c.fr f (by decide) (by decide) (by decide), h.g.fr f (by decide) (by decide) (by decide) (by decide), h.p.fr f (by decide) (by decide), h.e.fr f (by decide) (by decide), h.s.fr f (by decide) (by decide), h.k.fr f (by decide)⟩
theorem lay_ok {x : Int32} (hN : 100 ≤ N) (h : tpR S l) (hl : l.length + 4 ≤ 1000) : wp (o_lay N S x) (f_lay N S x) (fun S' => rfr [21, 22] S S' ∧ tpR S' (l ++ inB x)) := by
  obtain ⟨h1, h2, h3, h4⟩ := h
  show wp (O_lay_0 N x S) (F_lay_0 N x S) _
  unfold O_lay_0 F_lay_0
  refine wp_seq (Q := fun z : Nat × rS => rfr [21] S z.2 ∧ (∀ i, i < l.length → z.2.2.1 21 i = nI (bg l i)) ∧ ∀ k, k < 4 → z.2.2.1 21 (l.length + k) = nI (fbB x k)) ?_ ?_
  · refine wp_loop (K := 4) (fun j y => rfr [21] S y ∧ (∀ i, i < l.length → y.2.1 21 i = nI (bg l i)) ∧ ∀ k, k < j → y.2.1 21 (l.length + k) = nI (fbB x k)) (fun q j y => OL_lay_2 N q x (nI j) y) (fun q j y => L_lay_2 N q x (nI j) y) (fun q j y hj hI ih => ?_) 0 N S (by omega) (by omega) ⟨rfr.refl, h3, fun k hk => absurd hk (by omega)⟩
    unfold OL_lay_2 L_lay_2 OB_lay_2 B_lay_2
    by_cases e : j = 4
    · refine wp_pos (by rw [n_le' (by omega) (by omega)]; omega) ?_
      subst e
      exact wp_fin trivial hI
    have sp := (nb_spec (x >>> ((nI 24 - nI 8 * nI j) &&& 31))).2
    rw [hI.1.i 22 (by decide), h1, n_add, n_clamp (by omega), sp, n_add]
    refine wp_neg (by rw [n_le' (by omega) (by omega)]; omega) (wp_and ((n_in (by omega)).2 (by omega)) (ih _ ⟨hI.1.trans (rfr.one (by decide)), fun i hi => ?_, fun k hk => ?_⟩ (by omega)))
    · rw [A_same, upd_other _ _ (by omega)]
      exact hI.2.1 i hi
    · rw [A_same]
      by_cases c : k = j
      · rw [c, upd_same]
        rfl
      · rw [upd_other _ _ (by omega)]
        exact hI.2.2 k (by omega)
  rintro z ⟨z1, z2, z3⟩
  unfold OA_lay_2 A_lay_2 O_lay_37 F_lay_37
  rw [z1.i 22 (by decide), h1, n_add]
  have ll : (l ++ inB x).length = l.length + 4 := by
    rw [List.length_append]
    rfl
  refine wp_fin trivial ⟨(z1.mono (by decide)).trans (rfr.oneI (by decide)), ?_, by omega, fun i hi => ?_, isB_app h4 (inB_B x)⟩
  · rw [I_same, ll]
  · rw [ll] at hi
    rw [I_A, bg_app]
    by_cases c : i < l.length
    · rw [if_pos c]; exact z2 i c
    · rw [if_neg c, inB_bg x (by omega), ← z3 (i - l.length) (by omega), show l.length + (i - l.length) = i by omega]
def aFeed (w : Wd) (a b c d e : Int32) : Wd := sL w (wL w ++ inB a ++ inB b ++ inB c ++ inB d ++ inB e)
theorem feed_ok {a b c d e : Int32} (hN : 100 ≤ N) (h : rRp F H T S w) : wp (o_feed N S a b c d e) (f_feed N S a b c d e) (fun z => ((wL w).length + 20 ≤ 1000 ∧ rRp F H T z.2 (aFeed w a b c d e) ∧ z.1 = nI 1) ∨ (¬ (wL w).length + 20 ≤ 1000 ∧ rRp F H T z.2 w ∧ z.1 = nI 0)) := by
  have ht := h.co.2.2.2.2.2.2.2
  have l4 : ∀ x, (inB x).length = 4 := fun _ => rfl
  show wp (O_feed_0 N a b c d e S) (F_feed_0 N a b c d e S) _
  unfold O_feed_0 F_feed_0
  rw [ht.1, n_add]
  have hl := ht.2.1
  refine wp_ite (fun q => ?_) (fun q => ?_) <;> rw [n_le' (by omega) (by omega)] at q
  rotate_left
  · exact wp_fin trivial (Or.inr ⟨q, h, rfl⟩)
  refine wp_call (lay_ok hN ht (by omega)) (fun r => ?_)
  obtain ⟨f1, t1⟩ := r
  generalize f_lay N S a = S1 at f1 t1 ⊢
  unfold O_feed_20 F_feed_20
  refine wp_call (lay_ok hN t1 (by rw [List.length_append, l4]; omega)) (fun r => ?_)
  have f2 := f1.trans r.1
  have t2 := r.2
  generalize f_lay N S1 b = S2 at f2 t2 ⊢
  unfold O_feed_25 F_feed_25
  refine wp_call (lay_ok hN t2 (by rw [List.length_append, List.length_append, l4, l4]; omega)) (fun r => ?_)
  have f3 := f2.trans r.1
  have t3 := r.2
  generalize f_lay N S2 c = S3 at f3 t3 ⊢
  unfold O_feed_30 F_feed_30
  refine wp_call (lay_ok hN t3 (by rw [List.length_append, List.length_append, List.length_append, l4, l4, l4]; omega)) (fun r => ?_)
  have f4 := f3.trans r.1
  have t4 := r.2
  generalize f_lay N S3 d = S4 at f4 t4 ⊢
  unfold O_feed_36 F_feed_36
  refine wp_call (lay_ok hN t4 (by rw [List.length_append, List.length_append, List.length_append, List.length_append, l4, l4, l4, l4]; omega)) (fun r => ?_)
  have f5 := f4.trans r.1
  have t5 := r.2
  generalize f_lay N S4 e = S5 at f5 t5 ⊢
  unfold O_feed_42 F_feed_42
  exact wp_fin trivial (Or.inl ⟨q, h.tape f5 t5, rfl⟩)
/-- a message tells an honest node -/
def tlB (H : Nat) (b : List Nat) : Prop := ∃ p, p < bg b 100 ∧ bg b (evP b p) < H
def tlH (H : Nat) (m : List Nat) : Prop := ((bg m 0 = 1 ∨ bg m 0 = 2 ∨ bg m 0 = 3 ∨ bg m 0 = 6) ∧ bg m 1 < H) ∨ (bg m 0 = 1 ∧ tlB H (m.drop 6)) ∨ (bg m 0 = 4 ∧ tlB H (m.drop 1))
theorem tells_43 {b : List Nat} {c : Nat} (hN : 100 ≤ N) (h : rRp F H T S w) (hb : bR S 1352 b) (hw : blkWf T b) (hB : isB b) (hc : c ≤ 1) : wp (O_tellsHonest_43 N (nI c) S) (F_tellsHonest_43 N (nI c) S) (fun v => ((c = 1 ∨ tlB H b) ∧ v = nI 1) ∨ (¬ (c = 1 ∨ tlB H b) ∧ v = nI 0)) := by
  have cb := h.1.1.b
  have bl := hw.len
  have b2 : bg b 100 ≤ 2 := hw.2.2.2.2.1
  have ev := hw.2.2.2.2.2.1
  obtain ⟨p1, p2⟩ := byte_at (N := N) (p := 1352) (i := 100) (by omega) hb.2.1 bl.2 (by omega)
  have po : o_proofsOf N S (nI 1352) := ⟨p1, trivial⟩
  have pf : f_proofsOf N S (nI 1352) = nI (bg b 100) := p2
  unfold O_tellsHonest_43 F_tellsHonest_43
  refine wp_seq (Q := fun z : Nat × Int32 × Unit => ∃ u : Nat, z = (0, nI u, ()) ∧ ((u = 1 ∧ (c = 1 ∨ tlB H b)) ∨ (u = 0 ∧ ¬ (c = 1 ∨ tlB H b)))) ?_ ?_
  · refine wp_loop (K := bg b 100) (fun j (u : Nat) => (u = 1 ∧ (c = 1 ∨ tlB H b)) ∨ (u = 0 ∧ c = 0 ∧ ∀ p, p < j → ¬ bg b (evP b p) < H)) (fun q j u => OL_tellsHonest_48 N q (nI u) (nI (evP b j)) (nI j) S) (fun q j u => L_tellsHonest_48 N q (nI u) (nI (evP b j)) (nI j) S) (fun q j u hj hI ih => ?_) 0 N c (by omega) (by omega) (by
      by_cases e : c = 1
      · exact Or.inl ⟨e, Or.inl e⟩
      · exact Or.inr ⟨(by omega), (by omega), fun p hp => absurd hp (by omega)⟩)
    unfold OL_tellsHonest_48 L_tellsHonest_48 OB_tellsHonest_48 B_tellsHonest_48
    rw [pf]
    by_cases e : j = bg b 100
    · refine wp_and po (wp_pos (by rw [n_le' (by omega) (by omega)]; omega) ?_)
      refine wp_fin trivial ⟨u, rfl, ?_⟩
      rcases hI with hI | ⟨i1, i2, i3⟩
      · exact Or.inl hI
      · refine Or.inr ⟨i1, ?_⟩
        rintro (z | ⟨p, z1, z2⟩)
        · omega
        · exact i3 p (by omega) z2
    have ej := ev j (by omega)
    have en := ej.1
    have pl := evP_le b j
    obtain ⟨s1, s2⟩ := proofBytes_ok (N := N) (p := 1352) (i := evP b j) (by omega) hb.2.1 bl.2 hB (by omega)
    obtain ⟨y1, y2⟩ := byte_at (N := N) (p := 1352) (i := evP b j) (by omega) hb.2.1 bl.2 (by omega)
    have yb := hB (evP b j)
    have nxt : ∀ u', ((u' = 1 ∧ (c = 1 ∨ tlB H b)) ∨ (u' = 0 ∧ c = 0 ∧ ∀ p, p < j + 1 → ¬ bg b (evP b p) < H)) → wp (O_tellsHonest_83 N (fun a b c => OL_tellsHonest_48 N q a b c S) (nI (evP b j)) (nI j) (nI u') S) (F_tellsHonest_83 N (fun a b c => L_tellsHonest_48 N q a b c S) (nI (evP b j)) (nI j) (nI u') S) (fun z : Nat × Int32 × Unit => ∃ u : Nat, z = (0, nI u, ()) ∧ ((u = 1 ∧ (c = 1 ∨ tlB H b)) ∨ (u = 0 ∧ ¬ (c = 1 ∨ tlB H b)))) := fun u' hu => by
      unfold O_tellsHonest_83 F_tellsHonest_83
      rw [s2, n_add, n_add]
      exact wp_and s1 (ih u' hu (by omega))
    have one : (c = 1 ∨ tlB H b) → wp (O_tellsHonest_78 N (fun a b c => OL_tellsHonest_48 N q a b c S) (nI (evP b j)) (nI j) S) (F_tellsHonest_78 N (fun a b c => L_tellsHonest_48 N q a b c S) (nI (evP b j)) (nI j) S) (fun z : Nat × Int32 × Unit => ∃ u : Nat, z = (0, nI u, ()) ∧ ((u = 1 ∧ (c = 1 ∨ tlB H b)) ∨ (u = 0 ∧ ¬ (c = 1 ∨ tlB H b)))) := fun z => by
      unfold O_tellsHonest_78 F_tellsHonest_78
      exact nxt 1 (Or.inl ⟨rfl, z⟩)
    refine wp_and po (wp_neg (by rw [n_le' (by omega) (by omega)]; omega) ?_)
    rcases hI with ⟨i1, i2⟩ | ⟨i1, i2, i3⟩
    · rw [i1]
      exact wp_neg (show ¬ nI 1 = 0 by decide) (one i2)
    · rw [i1, y2]
      obtain ⟨v1, v2⟩ := isHonest_ok (N := N) h (x := nI (bg b (evP b j)))
      refine wp_pos rfl (wp_and y1 (wp_and v1 ?_))
      rcases v2 with ⟨k, k1, k2, k3⟩ | ⟨k1, k2⟩
      · rw [k3]
        have : bg b (evP b j) = k := (n_eq' (show bg b (evP b j) < 2147483648 by omega) (show k < 2147483648 by omega)).1 k2
        exact wp_neg (by decide) (one (Or.inr ⟨j, by omega, by omega⟩))
      · rw [k2]
        refine wp_pos rfl (nxt 0 (Or.inr ⟨rfl, i2, fun p hp => ?_⟩))
        by_cases e2 : p = j
        · rw [e2]
          exact fun z => k1 ⟨_, z, rfl⟩
        · exact i3 p (by omega)
  rintro z ⟨u, z0, z1⟩
  rw [z0]
  unfold OA_tellsHonest_48 A_tellsHonest_48 O_tellsHonest_101 F_tellsHonest_101
  rcases z1 with ⟨a1, a2⟩ | ⟨a1, a2⟩ <;> rw [a1]
  · exact wp_fin rfl (Or.inl ⟨a2, rfl⟩)
  · exact wp_fin rfl (Or.inr ⟨a2, rfl⟩)
theorem tellsHonest_ok (hN : 100 ≤ N) (h : rRp F H T S w) (hm : cmS T m S) : wp (o_tellsHonest N S) (f_tellsHonest N S) (fun v => (tlH H m ∧ v = nI 1) ∨ (¬ tlH H m ∧ v = nI 0)) := by
  have cb := h.1.1.b
  obtain ⟨m1, m2, m3, r0, r1, r2, r4, r5, r6, r7⟩ := hm
  have hB : isB m := m1.2.2.2
  have k7 : bg m 0 ≤ 7 := by
    by_cases c : bg m 0 ≤ 7
    · exact c
    · exact absurd m2 (wf8 (by omega))
  have two : ∀ c : Nat, (c = 1 ∧ (bg m 0 = 1 ∨ bg m 0 = 2 ∨ bg m 0 = 3 ∨ bg m 0 = 6) ∧ bg m 1 < H) ∨ (c = 0 ∧ ¬ ((bg m 0 = 1 ∨ bg m 0 = 2 ∨ bg m 0 = 3 ∨ bg m 0 = 6) ∧ bg m 1 < H)) → wp (O_tellsHonest_24 N (nI c) S) (F_tellsHonest_24 N (nI c) S) (fun v => (tlH H m ∧ v = nI 1) ∨ (¬ tlH H m ∧ v = nI 0)) := fun c hc => by
    have c1 : c ≤ 1 := by omega
    unfold O_tellsHonest_24 F_tellsHonest_24
    rw [m3]
    refine wp_ite (fun d => ?_) (fun d => ?_) <;> rw [n_eq' (by omega) (by omega)] at d
    · have bw := ((wf1 d).1 m2).2.2.1
      refine wp_mono (tells_43 hN h (r1 d).2.2.2.2 bw (isB_drop hB 6) c1) (fun z => ?_)
      rcases z with ⟨z1, z2⟩ | ⟨z1, z2⟩
      · refine Or.inl ⟨?_, z2⟩
        rcases z1 with z1 | z1
        · rcases hc with hc | hc
          · exact Or.inl hc.2
          · omega
        · exact Or.inr (Or.inl ⟨d, z1⟩)
      · refine Or.inr ⟨?_, z2⟩
        rintro (q | q | q)
        · rcases hc with hc | hc
          · exact z1 (Or.inl hc.1)
          · exact hc.2 q
        · exact z1 (Or.inr q.2)
        · omega
    refine wp_ite (fun d4 => ?_) (fun d4 => ?_) <;> rw [n_eq' (by omega) (by omega)] at d4
    · have bw := (wf4 d4).1 m2
      refine wp_mono (tells_43 hN h (r4 d4).2.2 bw (isB_drop hB 1) c1) (fun z => ?_)
      rcases z with ⟨z1, z2⟩ | ⟨z1, z2⟩
      · refine Or.inl ⟨?_, z2⟩
        rcases z1 with z1 | z1
        · rcases hc with hc | hc
          · exact Or.inl hc.2
          · omega
        · exact Or.inr (Or.inr ⟨d4, z1⟩)
      · refine Or.inr ⟨?_, z2⟩
        rintro (q | q | q)
        · rcases hc with hc | hc
          · exact z1 (Or.inl hc.1)
          · exact hc.2 q
        · omega
        · exact z1 (Or.inr q.2)
    · rcases hc with ⟨a1, a2⟩ | ⟨a1, a2⟩ <;> rw [a1]
      · exact wp_fin rfl (Or.inl ⟨Or.inl a2, rfl⟩)
      · refine wp_fin rfl (Or.inr ⟨?_, rfl⟩)
        rintro (q | q | q)
        · exact a2 q
        · exact d q.1
        · exact d4 q.1
  show wp (O_tellsHonest_0 N S) (F_tellsHonest_0 N S) _
  unfold O_tellsHonest_0 F_tellsHonest_0
  by_cases sg : bg m 0 = 1 ∨ bg m 0 = 2 ∨ bg m 0 = 3 ∨ bg m 0 = 6
  · have s37 : S.1 37 = nI (bg m 1) := by
      rcases sg with e | e | e | e
      · exact (r1 e).1
      · exact (r2 (Or.inl e)).1
      · exact (r2 (Or.inr e)).1
      · exact r6 e
    have b1 := hB 1
    obtain ⟨v1, v2⟩ := isHonest_ok (N := N) h (x := nI (bg m 1))
    rw [s37]
    refine wp_neg (fun z => ?_) (wp_and v1 ?_)
    · rw [show (-1 : Int32) = iI (-1) from rfl, ← iI_n, iI_eq (by omega) (by omega) (by omega) (by omega)] at z
      omega
    rcases v2 with ⟨k, k1, k2, k3⟩ | ⟨k1, k2⟩
    · rw [k3]
      have : bg m 1 = k := (n_eq' (show bg m 1 < 2147483648 by omega) (show k < 2147483648 by omega)).1 k2
      exact wp_neg (by decide) (two 1 (Or.inl ⟨rfl, sg, by omega⟩))
    · rw [k2]
      refine wp_pos rfl ?_
      unfold O_tellsHonest_23 F_tellsHonest_23
      exact two 0 (Or.inr ⟨rfl, fun z => k1 ⟨_, z.2, rfl⟩⟩)
  · have s37 : S.1 37 = -1 := by
      rcases (show bg m 0 = 0 ∨ bg m 0 = 4 ∨ bg m 0 = 5 ∨ bg m 0 = 7 by omega) with e | e | e | e
      · exact r0 e
      · exact (r4 e).1
      · exact (r5 e).1
      · exact (r7 e).1
    rw [s37]
    refine wp_pos rfl ?_
    unfold O_tellsHonest_23 F_tellsHonest_23
    exact two 0 (Or.inr ⟨rfl, fun z => sg z.1⟩)
def aLie (w : Wd) (a b n : Nat) : Wd := aPost (sL w []) a b ((wL w).take n)
theorem lie_ok {x y v : Int32} (hN : 2000 ≤ N) (h : rRp F H T S w) : wp (o_lie N S x y v) (f_lie N S x y v) (fun z => (∃ a b n, mlA w H T x y a b ∧ 1 ≤ n ∧ n ≤ (wL w).length ∧ v = nI n ∧ ((¬ (wf T ((wL w).take n) ∧ tlH H ((wL w).take n)) ∧ rRp F H T z.2 (aLie w a b n) ∧ z.1 = nI 1) ∨ ((wf T ((wL w).take n) ∧ tlH H ((wL w).take n)) ∧ rRp F H T z.2 w ∧ z.1 = nI 0))) ∨ ((¬ ∃ a b n, mlA w H T x y a b ∧ 1 ≤ n ∧ n ≤ (wL w).length ∧ v = nI n) ∧ rRp F H T z.2 w ∧ z.1 = nI 0)) := by
  have cb := h.1.1.b
  have ht := h.co.2.2.2.2.2.2.2
  have tl := ht.2.1
  obtain ⟨i1, i2⟩ := mayLie_ok (N := N) h (x := x) (y := y)
  show wp (O_lie_0 N x y v S) (F_lie_0 N x y v S) _
  unfold O_lie_0 F_lie_0
  have no : (¬ ∃ a b n, mlA w H T x y a b ∧ 1 ≤ n ∧ n ≤ (wL w).length ∧ v = nI n) → wp (O_lie_22 N S) (F_lie_22 N S) (fun z => (∃ a b n, mlA w H T x y a b ∧ 1 ≤ n ∧ n ≤ (wL w).length ∧ v = nI n ∧ ((¬ (wf T ((wL w).take n) ∧ tlH H ((wL w).take n)) ∧ rRp F H T z.2 (aLie w a b n) ∧ z.1 = nI 1) ∨ ((wf T ((wL w).take n) ∧ tlH H ((wL w).take n)) ∧ rRp F H T z.2 w ∧ z.1 = nI 0))) ∨ ((¬ ∃ a b n, mlA w H T x y a b ∧ 1 ≤ n ∧ n ≤ (wL w).length ∧ v = nI n) ∧ rRp F H T z.2 w ∧ z.1 = nI 0)) := fun g => by
    unfold O_lie_22 F_lie_22
    exact wp_fin trivial (Or.inr ⟨g, h, rfl⟩)
  refine wp_and i1 ?_
  rcases i2 with ⟨a, b, m1, m2⟩ | ⟨m1, m2⟩
  rotate_left
  · rw [m2]
    exact wp_pos rfl (no (fun ⟨a, b, n, z, _⟩ => m1 ⟨a, b, z⟩))
  rw [m2]
  refine wp_neg (by decide) (wp_ite (fun c => ?_) (fun c => ?_))
  · refine no ?_
    rintro ⟨a', b', n, z, n1, n2, n3⟩
    rw [n3, n_lt' (by omega) (by omega)] at c
    omega
  have c' : ¬ v < 0 := fun z => c (by
    rw [Int32.lt_iff_toInt_lt] at z ⊢
    have : (0 : Int32).toInt = 0 := rfl
    have : (nI 1).toInt = 1 := rfl
    omega)
  obtain ⟨n, n1, n2⟩ := i_nat c'
  rw [n2, n_lt' n1 (by omega)] at c
  have q : v ≤ S.1 22 ↔ n ≤ (wL w).length := by rw [n2, ht.1, n_le' n1 (by omega)]
  refine wp_ite (fun d => ?_) (fun d => ?_) <;> rw [q] at d
  rotate_left
  · refine no ?_
    rintro ⟨a', b', n', z, k1, k2, k3⟩
    rw [n2, n_eq' n1 (by omega)] at k3
    omega
  obtain ⟨mm, hmm⟩ : ∃ mm, mm = (wL w).take n := ⟨_, rfl⟩
  have ml : mm.length = n := by rw [hmm, List.length_take]; omega
  obtain ⟨p1, p2, p3, p4, p5, p6, p7⟩ := m1
  have M1 : mlA w H T x y a b := ⟨p1, p2, p3, p4, p5, p6, p7⟩
  rw [n2]
  have xa : x = nI a := p6
  have yb : y = nI b := p7
  have f0 : rfr [32, 33] S (rsI S 33 (nI n)) := rfr.oneI (by decide)
  have g0 : (rsI S 33 (nI n)).1 33 = nI n := I_same _ _ _
  generalize rsI S 33 (nI n) = S0 at f0 g0 ⊢
  rw [xa, yb]
  rw [xa, yb, n2] at no
  rw [xa, yb] at M1
  refine wp_seq (Q := fun z : Nat × Int32 × Int32 × rS => z = (0, nI a, nI b, z.2.2.2) ∧ rfr [32, 33] S z.2.2.2 ∧ mB z.2.2.2 mm) ?_ ?_
  · refine wp_loop (K := n) (fun j y => rfr [32, 33] S y ∧ y.1 33 = nI n ∧ ∀ i, i < j → y.2.1 32 i = nI (bg mm i)) (fun q j y => OL_lie_32 N q (nI a) (nI b) (nI n) (nI j) y) (fun q j y => L_lie_32 N q (nI a) (nI b) (nI n) (nI j) y) (fun q j y hj hI ih => ?_) 0 N S0 (by omega) (by omega) ⟨f0, g0, fun i hi => absurd hi (by omega)⟩
    unfold OL_lie_32 L_lie_32 OB_lie_32 B_lie_32
    by_cases e : j = n
    · refine wp_pos (by rw [n_le' (by omega) (by omega)]; omega) ?_
      refine wp_fin trivial ⟨rfl, hI.1, by rw [ml]; exact hI.2.1, by omega, fun i hi => hI.2.2 i (by omega), ?_⟩
      rw [hmm]
      exact isB_take ht.2.2.2 n
    rw [n_clamp (by omega), n_add, hI.1.a 21 (by decide), ht.2.2.1 j (by omega)]
    refine wp_neg (by rw [n_le' (by omega) (by omega)]; omega) (wp_and ((n_in (by omega)).2 (by omega)) (wp_and ((n_in (by omega)).2 (by omega)) (ih _ ⟨hI.1.trans (rfr.one (by decide)), hI.2.1, fun i hi => ?_⟩ (by omega))))
    rw [A_same]
    by_cases c2 : i = j
    · rw [c2, upd_same, hmm, bg_take _ (by omega)]
    · rw [upd_other _ _ c2]
      exact hI.2.2 i (by omega)
  rintro z ⟨z0, z1, z2⟩
  rw [z0]
  generalize z.2.2.2 = S1 at z1 z2 ⊢
  have R1 := h.sf (sf32 z1)
  show wp (O_lie_58 N (nI a) (nI b) S1) (F_lie_58 N (nI a) (nI b) S1) _
  unfold O_lie_58 F_lie_58
  refine wp_call (read_ok z2 (by omega) R1.co.2.1 (by omega) hN R1.co.2.2.2.2.1) (fun r => ?_)
  obtain ⟨q1, q2, q3, q4⟩ := r
  have hm' := z2.fr q1 (by decide) (by decide)
  have R0 : rRp F H T (f_read N S1).2 w := R1.sf ⟨q1.mono (by decide), fun x hx => ⟨q2.1 x (by omega), fun i hi => q2.2.1 x i (by omega) hi, fun i hi => q2.2.2 x i (by omega) hi⟩⟩
  generalize f_read N S1 = y at q1 q2 q3 q4 hm' R0 ⊢
  have fly : ¬ (wf T mm ∧ tlH H mm) → wp (O_lie_74 N (nI a) (nI b) y.2) (F_lie_74 N (nI a) (nI b) y.2) (fun z => (∃ a' b' n', mlA w H T (nI a) (nI b) a' b' ∧ 1 ≤ n' ∧ n' ≤ (wL w).length ∧ nI n = nI n' ∧ ((¬ (wf T ((wL w).take n') ∧ tlH H ((wL w).take n')) ∧ rRp F H T z.2 (aLie w a' b' n') ∧ z.1 = nI 1) ∨ ((wf T ((wL w).take n') ∧ tlH H ((wL w).take n')) ∧ rRp F H T z.2 w ∧ z.1 = nI 0))) ∨ ((¬ ∃ a' b' n', mlA w H T (nI a) (nI b) a' b' ∧ 1 ≤ n' ∧ n' ≤ (wL w).length ∧ nI n = nI n') ∧ rRp F H T z.2 w ∧ z.1 = nI 0)) := fun g => by
    have f3 : rfr [21, 22] y.2 (rsI y.2 22 (nI 0)) := rfr.oneI (by decide)
    have R3 : rRp F H T (rsI y.2 22 (nI 0)) (sL w []) := R0.tape f3 ⟨I_same _ _ _, by decide, fun i hi => absurd hi (by simp), isB_nil⟩
    have m3 := hm'.fr f3 (by decide) (by decide)
    unfold O_lie_74 F_lie_74
    refine wp_call (fly_ok (tk := wT w) (by omega) m3 (by omega) R3.sk R3.co.2.2.2.2.2.1 (by omega) (by omega) (by have := h.co.2.2.2.2.2.2.1; omega)) (fun r => ?_)
    unfold O_lie_85 F_lie_85
    have l5 : (wK (sL w [])).1.length < 1000 := p5
    rw [r.2.2, if_pos l5]
    refine wp_fin rfl (Or.inl ⟨a, b, n, M1, (by omega), d, rfl, Or.inl ⟨by rw [← hmm]; exact g, ?_, rfl⟩⟩)
    unfold aLie
    rw [← hmm]
    exact R3.sky r.1 r.2.1
  unfold O_lie_62 F_lie_62
  rcases q4 with ⟨w1, w2, w3⟩ | ⟨w1, w2⟩
  rotate_left
  · rw [w2]
    exact wp_pos rfl (fly (fun z => w1 z.1))
  rw [w2]
  obtain ⟨t1, t2⟩ := tellsHonest_ok (N := N) (by omega) R0 (⟨hm', w1, q3, w3⟩ : cmS T mm y.2)
  refine wp_neg (show ¬ nI 1 = 0 by decide) (wp_and t1 ?_)
  rcases t2 with ⟨t2, t3⟩ | ⟨t2, t3⟩ <;> rw [t3]
  · refine wp_neg (by decide) (wp_fin trivial (Or.inl ⟨a, b, n, M1, (by omega), d, rfl, Or.inr ⟨by rw [← hmm]; exact ⟨w1, t2⟩, R0, rfl⟩⟩))
  · exact wp_pos rfl (fly (fun z => t2 z.2))
end
end
