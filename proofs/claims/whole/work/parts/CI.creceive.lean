section
/-! WHAT COMES TO A NODE: all of it -/
section
variable {F N g H T n : Nat} {s s0 s1 S : cS} {ct : Nat → List Nat} {hd : List Nat} {w w' V W : Wd} {pe pe' : Nat → Int} {a b c e i : Nat} {G : Gh} {m : List Nat}
theorem bo1 : narrow .boolean (.int (nI 1)) = .int (nI 1) := congrArg Value.int (show nI 1 &&& 1 = nI 1 by decide)
theorem bo0 : narrow .boolean (.int (nI 0)) = .int (nI 0) := congrArg Value.int (show nI 0 &&& 1 = nI 0 by decide)
/-- what a coming message leaves -/
def rcP (F g H T : Nat) (ct : Nat → List Nat) (hd : List Nat) (w W : Wd) (pe : Nat → Int) (n : Nat) (z : Int32 × cS) : Prop := ∃ ct', (∀ b, b ∈ hd → ct' b = ct b) ∧ CR F g H T z.2 ct' hd W pe ∧ (z.1 = nI 1 ∨ (z.1 = nI 0 ∧ qtN w W n))
theorem recv_285 {k : Nat} {z : Int32 × cS} (hk : k = 285 ∨ k = 259) (h : rcP F g H T ct hd w W pe n z) : wp (KO_X3_receive_277 N g H T z.1 z.2) (KF_X3_receive_277 N g H T z.1 z.2) (rcP F g H T ct hd w W pe n) := by
  obtain ⟨ct', h1, h2, h3⟩ := h
  unfold KO_X3_receive_277 KF_X3_receive_277 KO_X3_receive_284 KF_X3_receive_284
  rcases h3 with h3 | ⟨h3, h4⟩
  · refine wp_neg (by rw [h3]; decide) (wp_fin bo1 ⟨ct', h1, h2, Or.inl rfl⟩)
  · refine wp_pos (by rw [h3]; decide) (wp_fin bo0 ⟨ct', h1, h2, Or.inr ⟨rfl, h4⟩⟩)
theorem recv_251 {z : Int32 × cS} (h : rcP F g H T ct hd w W pe n z) : wp (KO_X3_receive_251 N g H T z.1 z.2) (KF_X3_receive_251 N g H T z.1 z.2) (rcP F g H T ct hd w W pe n) := by
  obtain ⟨ct', h1, h2, h3⟩ := h
  unfold KO_X3_receive_251 KF_X3_receive_251 KO_X3_receive_258 KF_X3_receive_258
  rcases h3 with h3 | ⟨h3, h4⟩
  · refine wp_neg (by rw [h3]; decide) (wp_fin bo1 ⟨ct', h1, h2, Or.inl rfl⟩)
  · refine wp_pos (by rw [h3]; decide) (wp_fin bo0 ⟨ct', h1, h2, Or.inr ⟨rfl, h4⟩⟩)
theorem recv_80 {z : Int32 × cS} (h : rcP F g H T ct hd w W pe n z) : wp (KO_X3_receive_80 N g H T z.1 z.2) (KF_X3_receive_80 N g H T z.1 z.2) (rcP F g H T ct hd w W pe n) := by
  obtain ⟨ct', h1, h2, h3⟩ := h
  unfold KO_X3_receive_80 KF_X3_receive_80 KO_X3_receive_87 KF_X3_receive_87
  rcases h3 with h3 | ⟨h3, h4⟩
  · refine wp_neg (by rw [h3]; decide) (wp_fin bo1 ⟨ct', h1, h2, Or.inl rfl⟩)
  · refine wp_pos (by rw [h3]; decide) (wp_fin bo0 ⟨ct', h1, h2, Or.inr ⟨rfl, h4⟩⟩)
theorem recv_228 {e : Nat} (hN : 100 ≤ N) (cr : CR F g H T s ct hd V pe) (hn : n < H) (hl : hd.length ≤ 24) (hu : wN V n 0 = 1) (k : GN F H T G V n) (hb : b < T) (ha : a ∈ hd) (ea : ct a = m) (a4 : cI s 4 a = nI 1) (hw : (bg m 0 = 4 ∧ e = 0) ∨ (sgM T m ∧ e = 1)) (hh : wN V n 1 ≤ (htM m : Int)) (h9 : htM m ≤ 65535) : wp (KO_X3_receive_228 N g H T (some (nd g n)) (nI b) (some a) (nI e) (nI (htM m)) s) (KF_X3_receive_228 N g H T (some (nd g n)) (nI b) (some a) (nI e) (nI (htM m)) s) (rcP F g H T ct hd V (aArr2 V n T b m) pe n) := by
  have cb := cr.1.bb
  obtain ⟨-, g1, -⟩ := k.a
  have e9 := cr.h1 hn (by omega)
  unfold KO_X3_receive_228 KF_X3_receive_228
  rw [zsome, e9, n_add]
  have nop : aArr2 V n T b m = V → rcP F g H T ct hd V (aArr2 V n T b m) pe n (nI 0, s) := fun q => by
    rw [q]
    exact ⟨ct, fun _ _ => rfl, cr, Or.inr ⟨rfl, qtN.refl⟩⟩
  rcases hw with ⟨w0, rfl⟩ | ⟨sg, rfl⟩
  · refine wp_pos rfl (wp_and someN ?_)
    have e2 : aArr2 V n T b m = if (htM m : Int) = wN V n 1 ∧ wY V n 6 b = none then sBy V n 6 b (some m) else V := if_pos w0
    by_cases c1 : htM m = (wN V n 1).toNat
    · refine wp_pos (by rw [c1]) (wp_call (holdDecided_C (N := N) cr hn (by omega) hu ha ea a4 hb) (fun q => ?_))
      generalize k_X8_holdDecided N g H T s (nd g n + 14) (nI b) (some a) = z at q ⊢
      rcases q with ⟨q1, q2, q3⟩ | ⟨q1, q2⟩
      · refine recv_251 ⟨ct, fun _ _ => rfl, ?_, Or.inl q3⟩
        rw [e2, if_pos ⟨by omega, q1⟩]
        exact q2
      · rw [q2]
        exact recv_251 (nop (by rw [e2, if_neg (fun q => q1 q.2)]))
    · exact wp_neg (by rw [n_eq' (by omega) (by omega)]; omega) (wp_fin bo0 (nop (by rw [e2, if_neg (fun q => by have := q.1; omega)])))
  · refine wp_neg (by decide) (wp_and someN ?_)
    have w0 : bg m 0 ≠ 4 ∧ htM m = tw m 2 := by
      rcases sg with ⟨q, _⟩ | ⟨q, _⟩
      · exact ⟨by omega, if_pos (Or.inl q)⟩
      · exact ⟨by omega, if_pos (Or.inr q)⟩
    have e2 : aArr2 V n T b m = if (htM m : Int) ≤ wN V n 1 + 1 then (if bg m 0 = 1 then aArP V n T b m else aArV V n T b m) else V := if_neg w0.1
    by_cases c1 : (htM m : Int) ≤ wN V n 1 + 1
    · have sg' := takeSigned_C (N := N) (b := b) hN cr hn hl hu k (by omega) ha ea a4 sg (show nxt _ _ by unfold nxt; omega)
      refine wp_neg (by rw [n_lt' (by omega) (by omega)]; omega) (wp_and sg'.1 ?_)
      have := sg'.2
      rw [e2, if_pos c1]
      exact recv_285 (k := 285) (Or.inl rfl) this
    · exact wp_pos (by rw [n_lt' (by omega) (by omega)]; omega) (wp_fin bo0 (nop (by rw [e2, if_neg c1])))
/-- the height of a message -/
theorem wf.ht (h : wf T m) (h0 : bg m 0 ≠ 0) (h6 : bg m 0 ≠ 6) (h7 : bg m 0 ≠ 7) : 1 ≤ htM m ∧ htM m ≤ 41 ∧ 3 ≤ m.length ∧ ((bg m 0 = 5 ∧ htM m = tw m 1) ∨ (bg m 0 = 4 ∧ htM m = tw m 1) ∨ (sgM T m ∧ 1 ≤ bg m 0 ∧ bg m 0 ≤ 3 ∧ htM m = tw m 2)) := by
  unfold htM
  rcases h with h | ⟨h, q⟩ | ⟨h, q⟩ | ⟨h, q⟩ | ⟨h, q, q2⟩ | h | h
  · omega
  · have o := (show sgM T m from Or.inl ⟨h, q⟩).o
    have o2 := o.1.2.1
    unfold hOK at o2
    rw [if_pos (Or.inl h)]
    exact ⟨o2.1, o2.2, by omega, Or.inr (Or.inr ⟨Or.inl ⟨h, q⟩, by omega, by omega, rfl⟩)⟩
  · have o := (show sgM T m from Or.inr ⟨h, q⟩).o
    have o2 := o.1.2.1
    unfold hOK at o2
    rw [if_pos (Or.inr h)]
    exact ⟨o2.1, o2.2, by omega, Or.inr (Or.inr ⟨Or.inr ⟨h, q⟩, by omega, by omega, rfl⟩)⟩
  · have l := q.len
    rw [List.length_drop] at l
    have o := q.2.1
    rw [show tw (m.drop 1) 0 = tw m 1 by unfold tw; rw [bg_drop, bg_drop]] at o
    unfold hOK at o
    rw [if_neg (by omega)]
    exact ⟨o.1, o.2, by omega, Or.inr (Or.inl ⟨h, rfl⟩)⟩
  · unfold hOK at q2
    rw [if_neg (by omega)]
    exact ⟨q2.1, q2.2, by omega, Or.inl ⟨h, rfl⟩⟩
  · omega
  · omega
theorem GN.o7 (k : GN F H T G w n) : plO7 (wP w n) := fun q hq => by
  obtain ⟨i, i1, i2⟩ := pg_ex hq
  have := k.p i i1
  rw [i2] at this
  exact ⟨this.1, this.2.1⟩
theorem qtN.on {b c : Nat} {m : List Nat} : qtN w (aOn w n T b c m) n := ⟨rfl, fun _ _ => rfl⟩
theorem recv_122 {e j : Nat} (hN : 100 ≤ N) (cr : CR F g H T s ct hd w pe) (hn : n < H) (hl : hd.length ≤ 24) (hu : wN w n 0 = 1) (k : GN F H T G w n) (hb : b < T) (ha : a ∈ hd) (ea : ct a = m) (a4 : cI s 4 a = nI 1) (hw : (bg m 0 = 5 ∧ e = 0 ∧ j = 1) ∨ (bg m 0 = 4 ∧ e = 0 ∧ j = 1) ∨ (sgM T m ∧ 1 ≤ bg m 0 ∧ bg m 0 ≤ 3 ∧ e = 1 ∧ j = 2)) (hh : htM m = tw m j) (h1 : 1 ≤ htM m) (h41 : htM m ≤ 41) (hm : 3 ≤ m.length) : wp (KO_X3_receive_122 N g H T (some (nd g n)) (nI b) (some a) (nI (bg m 0)) (nI e) (some a) (nI j) s) (KF_X3_receive_122 N g H T (some (nd g n)) (nI b) (some a) (nI (bg m 0)) (nI e) (some a) (nI j) s) (rcP F g H T ct hd w (aGot w n T b m) pe n) := by
  have cb := cr.1.bb
  obtain ⟨-, g1, -⟩ := k.a
  have e9 := cr.h1 hn (by omega)
  have ms := cr.ms (us_in ha)
  rw [ea] at ms
  have ml : j + 1 < m.length := by
    rcases hw with q | q | q
    · omega
    · omega
    · have := q.1.o.2.2.1
      omega
  obtain ⟨t1, t2⟩ := two_ok (N := N) (g := g) (H := H) (T := T) (i := j) ms (by omega)
  have et : twM m j = htM m := (if_pos ml).trans hh.symm
  obtain ⟨s1, s2⟩ := signer_c (N := N) (g := g) (H := H) (T := T) ms (by omega)
  have b1 := ms.2.2.1.2.2.2 1
  have eG : aGot w n T b m = if (htM m : Int) < wN w n 1 then (if bg m 0 = 5 ∨ (bg m 0 ≠ 4 ∧ bg m 1 = b) then aPost w n b (anB w n (htM m)) else w) else if bg m 0 = 5 then (if (htM m : Int) = wN w n 1 then aAH w n b T else w) else aArr w n T b m := by
    unfold aGot
    rw [if_neg (by omega), if_neg (by omega), if_neg (by omega)]
  have nop : aGot w n T b m = w → rcP F g H T ct hd w (aGot w n T b m) pe n (nI 0, s) := fun q => by
    rw [q]
    exact ⟨ct, fun _ _ => rfl, cr, Or.inr ⟨rfl, qtN.refl⟩⟩
  unfold KO_X3_receive_122 KF_X3_receive_122
  rw [zsome, zsome, t2, et, e9, s2]
  refine wp_and ⟨someN, t1⟩ (wp_and someN ?_)
  by_cases c1 : (htM m : Int) < wN w n 1
  · refine wp_neg (by rw [n_le' (by omega) (by omega)]; omega) ?_
    rw [if_pos c1] at eG
    have go : (bg m 0 = 5 ∨ (bg m 0 ≠ 4 ∧ bg m 1 = b)) → wp (KO_X3_receive_154 N g H T (some (nd g n)) (nI b) (nI (htM m)) s) (KF_X3_receive_154 N g H T (some (nd g n)) (nI b) (nI (htM m)) s) (rcP F g H T ct hd w (aGot w n T b m) pe n) := fun q => by
      rw [if_pos q] at eG
      unfold KO_X3_receive_154 KF_X3_receive_154
      refine wp_call (answerBelow_C (N := N) (b := b) hN cr hn (by omega) h1 c1 (by omega) k.b.1) (fun r => wp_fin trivial ?_)
      obtain ⟨ct', r1, r2⟩ := r
      rw [eG]
      exact ⟨ct', r1, r2, Or.inr ⟨rfl, rfl, fun _ _ => rfl⟩⟩
    by_cases c2 : bg m 0 = 5
    · exact wp_pos (by rw [c2]) (go (Or.inl c2))
    · refine wp_neg (by rw [n_eq' (by omega) (by omega)]; omega) ?_
      rcases hw with q | ⟨q, rfl, _⟩ | ⟨q1, q2, q3, rfl, _⟩
      · omega
      · exact wp_pos rfl (wp_fin trivial (nop (by rw [eG, if_neg (by omega)])))
      · refine wp_neg (by decide) (wp_and ⟨someN, s1⟩ ?_)
        by_cases c3 : bg m 1 = b
        · exact wp_pos (by rw [c3]) (go (Or.inr ⟨by omega, c3⟩))
        · exact wp_neg (by rw [n_eq' (by omega) (by omega)]; omega) (wp_fin trivial (nop (by rw [eG, if_neg (by omega)])))
  · refine wp_pos (by rw [n_le' (by omega) (by omega)]; omega) ?_
    rw [if_neg c1] at eG
    by_cases c2 : bg m 0 = 5
    · rw [if_pos c2] at eG
      refine wp_pos (by rw [c2]) ?_
      by_cases c3 : (htM m : Int) = wN w n 1
      · rw [if_pos c3] at eG
        refine wp_pos (by rw [n_eq' (by omega) (by omega)]; omega) (wp_call (answerAll_C (N := N) (b := b) hN cr hn hu (by omega)) (fun r => wp_fin trivial ?_))
        rw [eG]
        exact ⟨ct, fun _ _ => rfl, r, Or.inr ⟨rfl, rfl, fun _ _ => rfl⟩⟩
      · exact wp_neg (by rw [n_eq' (by omega) (by omega)]; omega) (wp_fin trivial (nop (by rw [eG, if_neg c3])))
    · rw [if_neg c2] at eG
      refine wp_neg (by rw [n_eq' (by omega) (by omega)]; omega) ?_
      have hw' : (bg m 0 = 4 ∧ e = 0) ∨ (sgM T m ∧ e = 1) := by
        rcases hw with q | q | q
        · omega
        · exact Or.inl ⟨q.1, q.2.1⟩
        · exact Or.inr ⟨q.1, q.2.2.2.1⟩
      unfold aArr at eG
      by_cases c3 : wN w n 1 < (htM m : Int)
      · rw [if_pos c3] at eG
        refine wp_neg (by rw [n_le' (by omega) (by omega)]; omega) ?_
        have ak := ask_C hN cr hn (by omega) (show 1 ≤ wN w n 1 ∧ wN w n 1 ≤ 41 by omega)
        refine wp_and ak.1 ?_
        obtain ⟨x, ct', m1, m2, m3, m4, m5, m6, m7⟩ := ak.2
        generalize k_X6_ask N g H T s (nd g n) = Y at m1 m4 m5 m7 ⊢
        obtain ⟨Y1, s2⟩ := Y
        have m1 : Y1 = some x := m1
        subst m1
        have m4 : CR F g H T s2 ct' (x :: hd) w pe := m4
        have m7 : ffr g H hd s s2 := m7
        have i1 : cI s2 1 (nd g n) = nI n := (m4.node hn).1.1
        show wp (KO_X3_receive_197 N g H T (some (nd g n)) (nI b) (some a) (nI e) (nI (htM m)) (some x) s2) (KF_X3_receive_197 N g H T (some (nd g n)) (nI b) (some a) (nI e) (nI (htM m)) (some x) s2) _
        unfold KO_X3_receive_197 KF_X3_receive_197 KO_X3_receive_216 KF_X3_receive_216
        rw [zsome, i1]
        have aH := cr.2.2.2.1.n ms.1
        refine wp_and someN (wp_call (post_C (N := N) (f := n) (t := b) m4 us_self) (fun q => ?_))
        rw [m2] at q
        refine wp_and someN (wp_call (drop_C (N := N) q.1 (by omega)) (fun r => ?_))
        have same : ∀ y, y ∈ hd → ct' y = ct y := fun y hy => m3 y (fun q => by
          have r1 := us_in (g := g) (H := H) (T := T) (s := s) hy
          rw [q, m6] at r1
          omega)
        have fin := recv_228 (N := N) (e := e) hN r.1 hn hl hu (show GN F H T G (aPost w n b (asB (wN w n 1).toNat)) n from k) hb ha (by rw [same a ha]; exact ea) (by rw [r.2 a aH, q.2 a aH, m7.1 a ha]; exact a4) hw' (show wN w n 1 ≤ _ by omega) (by omega)
        refine wp_mono fin (fun q => ?_)
        obtain ⟨ct2, q1, q2, q3⟩ := q
        rw [eG]
        exact ⟨ct2, fun y hy => (q1 y hy).trans (same y hy), q2, q3.imp id (fun q => ⟨q.1, q.2⟩)⟩
      · rw [if_neg c3] at eG
        rw [eG]
        exact wp_pos (by rw [n_le' (by omega) (by omega)]; omega) (recv_228 hN cr hn hl hu k hb ha ea a4 hw' (by omega) (by omega))
theorem receive_C (hN : 100 ≤ N) (cr : CR F g H T s ct hd w pe) (hn : n < H) (hl : hd.length ≤ 24) (hu : wN w n 0 = 1) (k : GN F H T G w n) (hb : b < T) (ha : a ∈ hd) (ea : ct a = m) (a4 : cI s 4 a = nI 1) (hw : wf T m) : wp (p_X3_receive N g H T s (some (nd g n)) (nI b) (some a)) (k_X3_receive N g H T s (some (nd g n)) (nI b) (some a)) (rcP F g H T ct hd w (aGot w n T b m) pe n) := by
  have cb := cr.1.bb
  obtain ⟨-, g1, -⟩ := k.a
  have e9 := cr.h1 hn (by omega)
  have ms := cr.ms (us_in ha)
  rw [ea] at ms
  have mB := ms.2.2.1.2.2.2
  obtain ⟨t1, t2⟩ := two_ok (N := N) (g := g) (H := H) (T := T) (i := 1) ms (by omega)
  obtain ⟨k1, k2⟩ := kind_ok (N := N) (g := g) (H := H) (T := T) ms
  have b0 := mB 0
  have tl := tw_lt mB 1
  show wp (KO_X3_receive_0 N g H T (some (nd g n)) (nI b) (some a) s) (KF_X3_receive_0 N g H T (some (nd g n)) (nI b) (some a) s) _
  unfold KO_X3_receive_0 KF_X3_receive_0
  rw [zsome, zsome, k2, t2, e9]
  refine wp_and ⟨someN, k1⟩ ?_
  by_cases c0 : bg m 0 = 0
  · have ml : m.length = 8 := by
      rcases hw with h | ⟨h, q⟩ | ⟨h, q⟩ | ⟨h, q⟩ | ⟨h, q, q2⟩ | h | h
      · exact h.2.1
      all_goals omega
    refine wp_pos (by rw [c0]; rfl) (wp_call (takePayment_C (N := N) (b := b) hN cr hn hu k.o7 ha ea ml (by omega)) (fun r => wp_fin trivial ?_))
    have eG : aGot w n T b m = if (aPool w n (sl m 1 7)).1 then aOn (aPool w n (sl m 1 7)).2 n T b b m else (aPool w n (sl m 1 7)).2 := if_pos c0
    rw [eG]
    refine ⟨ct, fun _ _ => rfl, r, Or.inr ⟨rfl, ?_⟩⟩
    have q : qtN w (aPool w n (sl m 1 7)).2 n := by
      unfold aPool
      split
      · exact qtN.refl
      · exact ⟨rfl, fun _ _ => rfl⟩
    split
    · exact q.trans qtN.on
    · exact q
  refine wp_neg (by rw [n_eq0 (by omega)]; exact c0) ?_
  by_cases c6 : bg m 0 = 6
  · have mo : evOK T m 1 ∧ m.length = 1 + evSz m 1 := by
      rcases hw with h | ⟨h, q⟩ | ⟨h, q⟩ | ⟨h, q⟩ | ⟨h, q, q2⟩ | h | h
      · omega
      · omega
      · omega
      · omega
      · omega
      · exact h.2
      · omega
    have sz := evSz_le m 1
    obtain ⟨s1, s2⟩ := signer_c (N := N) (g := g) (H := H) (T := T) ms (by omega)
    refine wp_pos (by rw [c6]) (wp_and someN (wp_call (addProof_C (N := N) cr hn (by omega) hu ha ea mo.1.2.1 (by omega) (by omega)) (fun r => ?_)))
    have eG : aGot w n T b m = if (aKp w n m).1 then aOn (aKp w n m).2 n T b (bg m 1) m else (aKp w n m).2 := by
      unfold aGot
      rw [if_neg c0, if_pos c6]
    rw [eG]
    generalize k_X8_addProof N g H T s (nd g n + 14) (some a) = z at r ⊢
    obtain ⟨z1, s2'⟩ := z
    obtain ⟨r1, r2⟩ := r
    have r1 : CR F g H T s2' ct hd (aKp w n m).2 pe := r1
    have r2 : z1 = nI (if (aKp w n m).1 then 1 else 0) := r2
    have i1 : cI s2' 1 (nd g n) = nI n := (r1.node hn).1.1
    have ms2 := r1.ms (us_in ha)
    rw [ea] at ms2
    obtain ⟨s3, s4⟩ := signer_c (N := N) (g := g) (H := H) (T := T) ms2 (by omega)
    have h1T := mo.1.2.1
    show wp (KO_X3_receive_31 N g H T (some (nd g n)) (nI b) (some a) z1 s2') (KF_X3_receive_31 N g H T (some (nd g n)) (nI b) (some a) z1 s2') _
    unfold KO_X3_receive_31 KF_X3_receive_31
    rw [zsome, zsome, i1, s4, r2]
    cases ek : (aKp w n m).1 with
    | false =>
      refine wp_pos rfl (wp_fin trivial ⟨ct, fun _ _ => rfl, r1, Or.inr ⟨rfl, qtN.kp⟩⟩)
    | true =>
      refine wp_neg (by decide) (wp_and someN (wp_and ⟨someN, s3⟩ (wp_call (spread_C (N := N) (m := a) (f := n) (b := b) (c := bg m 1) hN r1 ha (by omega) (by omega) (by omega)) (fun r => wp_fin trivial ?_))))
      rw [ea] at r
      exact ⟨ct, fun _ _ => rfl, r.1, Or.inr ⟨rfl, qtN.kp.trans qtN.on⟩⟩
  refine wp_neg (by rw [n_eq' (by omega) (by omega)]; omega) ?_
  by_cases c7 : bg m 0 = 7
  · have mo : m.length = 115 := by
      rcases hw with h | ⟨h, q⟩ | ⟨h, q⟩ | ⟨h, q⟩ | ⟨h, q, q2⟩ | h | h
      · omega
      · omega
      · omega
      · omega
      · omega
      · omega
      · exact h.2.1
    have et : twM m 1 = tw m 1 := if_pos (by omega)
    have eG : aGot w n T b m = if wN w n 1 < (tw m 1 : Int) then sBy w n 3 b (some m) else w := by
      unfold aGot
      rw [if_neg c0, if_neg c6, if_pos c7]
    rw [et]
    refine wp_pos (by rw [c7]) (wp_and t1 (wp_and someN ?_))
    by_cases c8 : wN w n 1 < (tw m 1 : Int)
    · rw [if_pos c8] at eG
      refine wp_neg (by rw [n_le' (by omega) (by omega)]; omega) (wp_call (holdSnapshot_C (N := N) cr hn (by omega) hu ha ea hb (by omega)) (fun r => ?_))
      rw [eG]
      exact recv_80 ⟨ct, fun _ _ => rfl, r.1, Or.inl r.2⟩
    · rw [if_neg c8] at eG
      rw [eG]
      exact wp_pos (by rw [n_le' (by omega) (by omega)]; omega) (wp_fin bo0 ⟨ct, fun _ _ => rfl, cr, Or.inr ⟨rfl, qtN.refl⟩⟩)
  refine wp_neg (by rw [n_eq' (by omega) (by omega)]; omega) ?_
  obtain ⟨h1, h2, h3, h4⟩ := hw.ht c0 c6 c7
  by_cases c1 : 1 ≤ bg m 0 ∧ bg m 0 ≤ 3
  · have sg : sgM T m ∧ htM m = tw m 2 := by
      rcases h4 with q | q | q
      · omega
      · omega
      · exact ⟨q.1, q.2.2.2⟩
    have fin : wp (KO_X3_receive_104 N g H T (some (nd g n)) (nI b) (some a) (nI (bg m 0)) s) (KF_X3_receive_104 N g H T (some (nd g n)) (nI b) (some a) (nI (bg m 0)) s) (rcP F g H T ct hd w (aGot w n T b m) pe n) := by
      unfold KO_X3_receive_104 KF_X3_receive_104 KO_X3_receive_109 KF_X3_receive_109
      exact wp_neg (by decide) (recv_122 (e := 1) (j := 2) hN cr hn hl hu k hb ha ea a4 (Or.inr (Or.inr ⟨sg.1, c1.1, c1.2, rfl, rfl⟩)) sg.2 h1 h2 h3)
    by_cases d1 : bg m 0 = 1
    · exact wp_pos (by rw [d1]) fin
    refine wp_neg (by rw [n_eq' (by omega) (by omega)]; omega) ?_
    by_cases d2 : bg m 0 = 2
    · exact wp_pos (by rw [d2]) fin
    refine wp_neg (by rw [n_eq' (by omega) (by omega)]; omega) ?_
    exact wp_pos (by rw [show bg m 0 = 3 by omega]) fin
  · refine wp_neg (by rw [n_eq' (by omega) (by omega)]; omega) (wp_neg (by rw [n_eq' (by omega) (by omega)]; omega) (wp_neg (by rw [n_eq' (by omega) (by omega)]; omega) ?_))
    unfold KO_X3_receive_109 KF_X3_receive_109
    refine wp_pos rfl (recv_122 (e := 0) (j := 1) hN cr hn hl hu k hb ha ea a4 ?_ ?_ h1 h2 h3)
    · rcases h4 with q | q | q
      · exact Or.inl ⟨q.1, rfl, rfl⟩
      · exact Or.inr (Or.inl ⟨q.1, rfl, rfl⟩)
      · omega
    · rcases h4 with q | q | q
      · exact q.2
      · exact q.2
      · omega
end
end
