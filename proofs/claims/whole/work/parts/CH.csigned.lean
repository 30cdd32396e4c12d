section
/-! WHAT COMES TO A NODE: a signed message -/
section
variable {F N g H T n : Nat} {s s0 s1 S : cS} {ct : Nat → List Nat} {hd : List Nat} {w w' V W : Wd} {pe pe' : Nat → Int} {a b c e i : Nat} {G : Gh} {m : List Nat}
/-- nothing that a node's rules read has changed -/
def qtN (w W : Wd) (n : Nat) : Prop := wN W n = wN w n ∧ ∀ f, f ≠ 2 → wY W n f = wY w n f
theorem qtN.refl : qtN w w n := ⟨rfl, fun _ _ => rfl⟩
theorem qtN.trans (h : qtN w V n) (h' : qtN V W n) : qtN w W n := ⟨h'.1.trans h.1, fun f hf => (h'.2 f hf).trans (h.2 f hf)⟩
theorem qtN.kp : qtN w (aKp w n m).2 n := by
  unfold aKp
  split
  · exact ⟨rfl, fun f hf => sBy_y.1 f hf⟩
  · exact qtN.refl
theorem qtN.ev {y : List Nat} : qtN w (aEv w n T m y) n := by
  unfold aEv
  split
  · exact qtN.kp.trans ⟨rfl, fun _ _ => rfl⟩
  · exact qtN.kp
/-- a signed message in its form -/
def sgM (T : Nat) (m : List Nat) : Prop := (bg m 0 = 1 ∧ prOK T m) ∨ ((bg m 0 = 2 ∨ bg m 0 = 3) ∧ voOK T m)
theorem sgM.o (h : sgM T m) : sgOK T m ∧ hoM T m ∧ 6 ≤ m.length ∧ idM m = edM m := by
  rcases h with ⟨h0, h1⟩ | ⟨h0, h1⟩
  · have l := h1.2.2.1.len
    rw [List.length_drop] at l
    exact ⟨h1.1, ⟨Or.inl h0, h1.1.1, by have := h1.1.2.2; omega, by omega⟩, by omega, idM_ed (T := T) (Or.inl h0)⟩
  · have l : 6 ≤ m.length ∧ m.length ≤ 38 := by
      have := h1.2
      omega
    exact ⟨h1.1, ⟨Or.inr ⟨h0, by omega⟩, h1.1.1, by have := h1.1.2.2; omega, l.1⟩, l.1, idM_ed (T := T) (Or.inr ⟨h0, h1⟩)⟩
/-- what is held in a message's place is its like -/
theorem GN.like {y : List Nat} (k : GN F H T G w n) (hT : T ≤ 13) (sg : sgM T m) (hx : nxt (wN w n 1) m) (hp : bg m 0 = 1 → bg m 1 = (tw m 2 + bg m 4) % T) (e : wY w n (hoF m) (hoI m) = some y) : evH y = evH m ∧ idM y = edM y ∧ 6 ≤ y.length ∧ bg y 0 = bg m 0 := by
  have key : bg y 1 = bg m 1 → bg y 0 = bg m 0 → tw y 2 = tw m 2 → bg y 4 = bg m 4 → evH y = evH m := fun e1 e2 e3 e4 => by
    unfold evH
    rw [e1, e2, e3, e4]
  have o := sg.o.1
  rcases sg with ⟨h0, h1⟩ | ⟨h0, h1⟩
  · unfold hoF hoI at e
    rw [if_pos h0, if_pos h0] at e
    obtain ⟨x1, x2, x3, x4, x5, x6, x7, x8⟩ := k.hd (tw m 2 % 2) (bg m 4) y (by omega) (by have := o.2.2; omega) e
    have et : tw y 2 = tw m 2 := by
      unfold nxt at hx x4
      omega
    have sy : sgM T y := Or.inl ⟨x1, x5⟩
    exact ⟨key (by rw [x7, et, hp h0]) (by omega) et x2, sy.o.2.2.2, sy.o.2.2.1, by omega⟩
  · unfold hoF hoI at e
    rw [if_neg (by omega), if_neg (by omega)] at e
    obtain ⟨x0, x1, x2, x3, x4, x5, x6, x7, x8⟩ := k.v (bg m 0 - 2) (tw m 2 % 2) (bg m 4) (bg m 1) y (by omega) (by omega) (by have := o.2.2; omega) (by have := o.1; omega) e
    have et : tw y 2 = tw m 2 := by
      unfold nxt at hx x5
      omega
    have sy : sgM T y := Or.inr ⟨by omega, x6⟩
    exact ⟨key x2 (by omega) et x3, sy.o.2.2.2, sy.o.2.2.1, by omega⟩
/-- what is held like it -/
theorem like_C (cr : CR F g H T s ct hd w pe) (hn : n < H) (hu : wN w n 0 = 1) (ua : 1 ≤ us g H T s hd a) (ea : ct a = m) (sg : sgM T m) : p_X8_like N g H T s (nd g n + 14) (some a) ∧ ((k_X8_like N g H T s (nd g n + 14) (some a) = none ∧ wY w n (hoF m) (hoI m) = none) ∨ ∃ x, k_X8_like N g H T s (nd g n + 14) (some a) = some x ∧ wY w n (hoF m) (hoI m) = some (ct x) ∧ 1 ≤ us g H T s hd x ∧ cI s 4 x = nI 1) := by
  have cb := cr.1.bb
  obtain ⟨o1, o2, o3, -⟩ := sg.o
  have ms := cr.ms ua
  rw [ea] at ms
  have mB := ms.2.2.1.2.2.2
  have o14 := o1.2.2
  have o11 := o1.1
  have b0 := mB 0
  have ml := ms.2.2.2.1
  obtain ⟨t1, t2⟩ := two_ok (N := N) (g := g) (H := H) (T := T) (i := 2) ms (by omega)
  have et : twM m 2 = tw m 2 := if_pos (by omega)
  obtain ⟨v1, v2⟩ := at_ok (N := N) (g := g) (H := H) (T := T) (i := 4) ms (by omega)
  obtain ⟨g1, g2⟩ := signer_c (N := N) (g := g) (H := H) (T := T) ms (by omega)
  obtain ⟨k1, k2⟩ := kind_ok (N := N) (g := g) (H := H) (T := T) ms
  obtain ⟨a1, a2⟩ := page_ok (N := N) (g := g) (H := H) (T := T) (S := s) (a0 := nd g n + 14) (h := tw m 2) (show bg m 4 < 16 by omega)
  have eS : cI s 1 (nd g n + 14) = nI T := (cr.node hn).2.2.2.2.2.2.2.2.2.2.2.2.1
  obtain ⟨z, cz, oz⟩ := cr.z_ hn
  rw [et] at t2
  show wp (KO_X8_like_0 N g H T (nd g n + 14) (some a) s) (KF_X8_like_0 N g H T (nd g n + 14) (some a) s) (fun z => (z = none ∧ wY w n (hoF m) (hoI m) = none) ∨ ∃ x, z = some x ∧ wY w n (hoF m) (hoI m) = some (ct x) ∧ 1 ≤ us g H T s hd x ∧ cI s 4 x = nI 1)
  unfold KO_X8_like_0 KF_X8_like_0 KO_X8_like_67 KF_X8_like_67 KO_X8_like_68 KF_X8_like_68
  have e1 : nd g n + 14 + 1 = nd g n + 15 := rfl
  have e5 : nd g n + 14 + 5 = nd g n + 19 := rfl
  rw [zsome, t2, v2, a2, g2, k2, eS, e1, e5, n_clamp (by omega)]
  refine wp_and ⟨someN, t1⟩ (wp_and v1 (wp_and a1 (wp_neg (n_lt0 (by omega)) (wp_and g1 (wp_pos (by rw [n_lt' (by omega) (by omega)]; omega) (wp_and k1 ?_))))))
  have fin : ∀ (e0 i0 : Nat), e0 ≤ 1 → i0 < plN T e0 → (cP s (nd g n + plO e0) i0).map ct = wY w n (hoF m) (hoI m) → (cP s (nd g n + plO e0) i0 = none ∧ wY w n (hoF m) (hoI m) = none) ∨ ∃ x, cP s (nd g n + plO e0) i0 = some x ∧ wY w n (hoF m) (hoI m) = some (ct x) ∧ 1 ≤ us g H T s hd x ∧ cI s 4 x = nI 1 := fun e0 i0 h0 hi q => by
    cases e : cP s (nd g n + plO e0) i0 with
    | none =>
      rw [e] at q
      exact Or.inl ⟨rfl, q.symm⟩
    | some x =>
      rw [e] at q
      exact Or.inr ⟨x, rfl, q.symm, us_pl (e0 := e0) (i0 := i0) hn (by omega) hi s e, (cr.2.2.2.1.2.2.2.2.1 n e0 i0 x hn (by omega) hi e).2 (by omega)⟩
  by_cases c1 : bg m 0 = 1
  · refine wp_pos (by rw [c1]) (wp_and ((n_in (by omega)).2 (by omega)) (wp_fin trivial ?_))
    have q := cz.nz.2.2.2.2.2.2.1.1 (16 * (tw m 2 % 2) + bg m 4) (by omega)
    rw [oz.1 hu 4 _ (Or.inl rfl)] at q
    refine fin 0 (16 * (tw m 2 % 2) + bg m 4) (by decide) (show _ < 32 by omega) ?_
    unfold hoF hoI
    rw [if_pos c1, if_pos c1]
    exact q
  · have c2 : bg m 0 = 2 ∨ bg m 0 = 3 := by
      rcases sg with q | q
      · omega
      · exact q.1
    obtain ⟨b1, b2⟩ := ballots_ok (N := N) (g := g) (H := H) (S := s) (a0 := nd g n + 14) (P := 16 * (tw m 2 % 2) + bg m 4) (k := bg m 0) eS c2
    have ev : (2 * (16 * (tw m 2 % 2) + bg m 4) + (bg m 0 - 2)) * T + bg m 1 = vqC T (bg m 0 - 2) (tw m 2 % 2) (bg m 4) (bg m 1) := rfl
    have lt := vqC_lt (T := T) (c := bg m 0 - 2) (p := tw m 2 % 2) (r := bg m 4) (k := bg m 1) (by omega) (by omega) (by omega) o11
    have L19 : cL s (nd g n + 19) = 64 * T := (cr.2.1.2.1 6 4 (nd g n + 14) (o53 (isO5 hn)) (by omega) _ rfl).2.2.resolve_left (by decide)
    rw [b2, n_add, ev, n_clamp (by omega), zsome, L19]
    refine wp_neg (by rw [n_eq' (by omega) (by omega)]; omega) (wp_and k1 (wp_and b1 (wp_and g1 (wp_and ⟨someN, ((n_in (by omega)).2 (by omega))⟩ (wp_fin trivial ?_)))))
    have q := cz.nz.2.2.2.2.2.2.1.2.1 (bg m 0 - 2) (tw m 2 % 2) (bg m 4) (bg m 1) (by omega) (by omega) (by omega) o11
    rw [oz.1 hu 5 _ (Or.inr rfl)] at q
    refine fin 1 (vqC T (bg m 0 - 2) (tw m 2 % 2) (bg m 4) (bg m 1)) (by decide) lt ?_
    unfold hoF hoI
    rw [if_neg c1, if_neg c1]
    exact q
/-- it is held -/
theorem hold_C (hN : 10 ≤ N) (cr : CR F g H T s ct hd w pe) (hn : n < H) (hl : hd.length ≤ 30) (hu : wN w n 0 = 1) (ua : 1 ≤ us g H T s hd a) (ea : ct a = m) (a4 : cI s 4 a = nI 1) (sg : sgM T m) (hno : wY w n (hoF m) (hoI m) = none) : wp (p_X8_hold N g H T s (nd g n + 14) (some a)) (k_X8_hold N g H T s (nd g n + 14) (some a)) (fun s' => CR F g H T s' ct hd (sBy w n (hoF m) (hoI m) (some m)) pe) := by
  have cb := cr.1.bb
  obtain ⟨z, cz, oz⟩ := cr.z_ hn
  have hF : hoF m = 4 ∨ hoF m = 5 := by
    unfold hoF
    split
    · exact Or.inl rfl
    · exact Or.inr rfl
  have hz := hold_Z (N := N) hN cz hn hl (by omega) ua (by rw [ea]; exact sg.o.2.1) a4
  rw [ea] at hz
  refine wp_fin hz.1 ?_
  obtain ⟨eY, e3⟩ := sBy_y (w := w) (n := n) (f0 := hoF m) (i0 := hoI m) (o := some m)
  have c2 := hz.2.1.y45 (y' := wY (sBy w n (hoF m) (hoI m) (some m)) n) (fun f f4 f5 _ => eY f (by omega))
  have zn : z (hoF m) (hoI m) = none := by
    rw [oz.1 hu _ _ hF]
    exact hno
  have ez : hoZ z m = zf z (hoF m) (hoI m) m := by
    unfold hoZ
    rw [zn]
  refine c2.cr ⟨fun _ f i hf => ?_, fun q => absurd hu q⟩ (fun k hk => ⟨rfl, funext fun f => funext fun j => if_neg (fun q => hk q.1), rfl, rfl⟩) rfl rfl rfl (fun _ _ => rfl) rfl rfl rfl rfl rfl
  rw [ez]
  by_cases q : f = hoF m
  · rw [q, e3]
    by_cases q2 : i = hoI m
    · rw [if_pos q2, q2, zf_s]
    · rw [if_neg q2, zf_o (Or.inr q2)]
      exact oz.1 hu _ _ hF
  · rw [eY f q, zf_o (Or.inl q)]
    exact oz.1 hu f i hf
theorem signed_34 (hN : 100 ≤ N) (cr : CR F g H T s ct hd w pe) (hn : n < H) (hl : hd.length ≤ 24) (hu : wN w n 0 = 1) (k : GN F H T G w n) (hb : b < 13) (ha : a ∈ hd) (ea : ct a = m) (a4 : cI s 4 a = nI 1) (sg : sgM T m) (hx : nxt (wN w n 1) m) (hp : bg m 0 = 1 → bg m 1 = (tw m 2 + bg m 4) % T) (w0 : wY w n (hoF m) (hoI m) = none → W = aOn (sBy w n (hoF m) (hoI m) (some m)) n T b (bg m 1) m) (w1 : ∀ y, wY w n (hoF m) (hoI m) = some y → edM m = edM y → W = w) (w2 : ∀ y, wY w n (hoF m) (hoI m) = some y → edM m ≠ edM y → W = aEv w n T m y) : wp (KO_X3_takeSigned_34 N g H T (some (nd g n)) (nI b) (some a) s) (KF_X3_takeSigned_34 N g H T (some (nd g n)) (nI b) (some a) s) (fun z => ∃ ct', (∀ b, b ∈ hd → ct' b = ct b) ∧ CR F g H T z.2 ct' hd W pe ∧ (z.1 = nI 1 ∨ (z.1 = nI 0 ∧ qtN w W n))) := by
  have cb := cr.1.bb
  have ua := us_in (g := g) (H := H) (T := T) (s := s) ha
  have ms := cr.ms ua
  rw [ea] at ms
  obtain ⟨o1, o2, o3, o4⟩ := sg.o
  obtain ⟨l1, l2⟩ := like_C (N := N) cr hn hu ua ea sg
  obtain ⟨g1, g2⟩ := signer_c (N := N) (g := g) (H := H) (T := T) ms (by omega)
  unfold KO_X3_takeSigned_34 KF_X3_takeSigned_34 KO_X3_takeSigned_102 KF_X3_takeSigned_102
  rw [zsome, zsome]
  refine wp_and someN (wp_and l1 ?_)
  generalize k_X8_like N g H T s (nd g n + 14) (some a) = x at l2 ⊢
  rcases l2 with ⟨rfl, l3⟩ | ⟨y, rfl, l3, uy, y4⟩
  · refine wp_pos rfl (wp_call (hold_C (N := N) (by omega) cr hn (by omega) hu ua ea a4 sg l3) (fun q => ?_))
    generalize k_X8_hold N g H T s (nd g n + 14) (some a) = s2 at q ⊢
    have ms2 := q.ms (us_in ha)
    rw [ea] at ms2
    obtain ⟨g3, g4⟩ := signer_c (N := N) (g := g) (H := H) (T := T) ms2 (by omega)
    have i1 : cI s2 1 (nd g n) = nI n := (q.node hn).1.1
    unfold KO_X3_takeSigned_55 KF_X3_takeSigned_55 KO_X3_takeSigned_72 KF_X3_takeSigned_72
    rw [zsome, zsome, g4, i1]
    have o11 := o1.1
    refine wp_and someN (wp_and ⟨someN, g3⟩ (wp_call (spread_C (N := N) (m := a) (f := n) (b := b) (c := bg m 1) hN q ha (by omega) (by omega) (by omega)) (fun r => wp_fin trivial ⟨ct, fun _ _ => rfl, ?_, Or.inl rfl⟩)))
    rw [w0 l3]
    rw [ea] at r
    exact r.1
  · rw [zsome, g2]
    have lk := k.like (by omega) sg hx hp l3
    have nm := cr.nm ua a4
    have ny := cr.nm uy y4
    rw [ea, o4] at nm
    rw [lk.2.1] at ny
    have km : idK (edM m) := fun d q => edM_ok ms.2.2.1.2.2.2 q
    have ky : idK (edM (ct y)) := fun d q => edM_ok ny.1.2.2.1.2.2.2 q
    refine wp_neg someN (wp_call (endsLike_c (N := N) (g := g) (H := H) (T := T) ny.2.2 nm.2.2 ky km) (fun q => ?_))
    generalize k_X5_endsLike N g H T s y (some a) = z at q ⊢
    rcases q with ⟨rfl, q⟩ | ⟨rfl, q⟩
    · have e := w1 _ l3 q.symm
      exact wp_neg (by decide) (wp_fin trivial ⟨ct, fun _ _ => rfl, by rw [e]; exact cr, Or.inr ⟨rfl, by rw [e]; exact qtN.refl⟩⟩)
    · have e := w2 _ l3 (fun z => q z.symm)
      have o11 := o1.1
      have eS : cI s 1 (nd g n + 14) = nI T := (cr.node hn).2.2.2.2.2.2.2.2.2.2.2.2.1
      obtain ⟨_, q9, _⟩ := (cr.node hn).2.2.2.2.2.2.2.2.1
      have q9 := q9 (bg m 1) o11
      have pf : p_X8_proofOf N g H T s (nd g n + 14) (nI (bg m 1)) ∧ k_X8_proofOf N g H T s (nd g n + 14) (nI (bg m 1)) = cP s (nd g n + 23) (bg m 1) := by
        show wp (KO_X8_proofOf_0 N g H T (nd g n + 14) (nI (bg m 1)) s) (KF_X8_proofOf_0 N g H T (nd g n + 14) (nI (bg m 1)) s) (fun z => z = cP s (nd g n + 23) (bg m 1))
        unfold KO_X8_proofOf_0 KF_X8_proofOf_0 KO_X8_proofOf_22 KF_X8_proofOf_22
        rw [eS, n_clamp (by omega)]
        exact wp_neg (n_lt0 (by omega)) (wp_neg (by rw [n_le' (by omega) (by omega)]; omega) (wp_and ((n_in (by omega)).2 (by omega)) (wp_fin trivial rfl)))
      rw [pf.2]
      refine wp_pos rfl (wp_and ⟨someN, g1⟩ (wp_and pf.1 ?_))
      cases ep : cP s (nd g n + 23) (bg m 1) with
      | some x =>
        rw [ep] at q9
        have q9 : wY w n 2 (bg m 1) = some (ct x) := q9.symm
        refine wp_neg someN (wp_fin trivial ⟨ct, fun _ _ => rfl, ?_, Or.inr ⟨rfl, by rw [e]; exact qtN.ev⟩⟩)
        have ew : aEv w n T m (ct y) = w := by
          have ek : aKp w n (evM m (ct y)) = (false, w) := by
            unfold aKp
            rw [show bg (evM m (ct y)) 1 = bg m 1 from rfl, q9]
          unfold aEv
          rw [ek]
          exact if_neg (fun q => Bool.noConfusion q)
        rw [e, ew]
        exact cr
      | none =>
        rw [ep] at q9
        have q9 : wY w n 2 (bg m 1) = none := q9.symm
        refine wp_pos rfl (wp_call (accuse_C hN cr hn hl hu uy y4 rfl ha a4 ea lk.2.1 o4 lk.1 (fun z => q z.symm) lk.2.2.1 o11 q9) (fun r => wp_fin trivial ?_))
        obtain ⟨ct', r1, r2⟩ := r
        refine ⟨ct', r1, ?_, Or.inr ⟨rfl, by rw [e]; exact qtN.ev⟩⟩
        rw [e]
        exact r2
theorem takeSigned_C (hN : 100 ≤ N) (cr : CR F g H T s ct hd w pe) (hn : n < H) (hl : hd.length ≤ 24) (hu : wN w n 0 = 1) (k : GN F H T G w n) (hb : b < 13) (ha : a ∈ hd) (ea : ct a = m) (a4 : cI s 4 a = nI 1) (sg : sgM T m) (hx : nxt (wN w n 1) m) : wp (p_X3_takeSigned N g H T s (some (nd g n)) (nI b) (some a)) (k_X3_takeSigned N g H T s (some (nd g n)) (nI b) (some a)) (fun z => ∃ ct', (∀ b, b ∈ hd → ct' b = ct b) ∧ CR F g H T z.2 ct' hd (if bg m 0 = 1 then aArP w n T b m else aArV w n T b m) pe ∧ (z.1 = nI 1 ∨ (z.1 = nI 0 ∧ qtN w (if bg m 0 = 1 then aArP w n T b m else aArV w n T b m) n))) := by
  have cb := cr.1.bb
  have ua := us_in (g := g) (H := H) (T := T) (s := s) ha
  have ms := cr.ms ua
  rw [ea] at ms
  obtain ⟨o1, o2, o3, o4⟩ := sg.o
  obtain ⟨t1, t2⟩ := two_ok (N := N) (g := g) (H := H) (T := T) (i := 2) ms (by omega)
  have et : twM m 2 = tw m 2 := if_pos (by omega)
  obtain ⟨v1, v2⟩ := at_ok (N := N) (g := g) (H := H) (T := T) (i := 4) ms (by omega)
  obtain ⟨g1, g2⟩ := signer_c (N := N) (g := g) (H := H) (T := T) ms (by omega)
  obtain ⟨k1, k2⟩ := kind_ok (N := N) (g := g) (H := H) (T := T) ms
  have o12 := o1.2.1
  have o14 := o1.2.2
  have o11 := o1.1
  have b0 := ms.2.2.1.2.2.2 0
  unfold hOK at o12
  have eT : cI s 1 (g + 8) = nI T := cr.2.2.2.2.2.1.2.1
  obtain ⟨p1, p2⟩ := proposer_c (N := N) (H := H) (r := bg m 4) (h := tw m 2) eT (by omega) (by omega) (by omega)
  show wp (KO_X3_takeSigned_0 N g H T (some (nd g n)) (nI b) (some a) s) (KF_X3_takeSigned_0 N g H T (some (nd g n)) (nI b) (some a) s) _
  unfold KO_X3_takeSigned_0 KF_X3_takeSigned_0
  rw [zsome, k2, t2, et, v2, p2, g2]
  refine wp_and ⟨someN, k1⟩ ?_
  by_cases c1 : bg m 0 = 1
  · have hF : hoF m = 4 := if_pos c1
    have hI : hoI m = hpI m := if_pos c1
    have lt : (tw m 2 + bg m 4) % T < T := Nat.mod_lt _ (by omega)
    rw [if_pos c1]
    refine wp_pos (by rw [c1]) (wp_and someN (wp_and t1 (wp_and v1 (wp_and p1 (wp_and g1 ?_)))))
    by_cases c2 : bg m 1 = (tw m 2 + bg m 4) % T
    · refine wp_pos (by rw [c2]) (signed_34 hN cr hn hl hu k hb ha ea a4 sg hx (fun _ => c2) (fun q => ?_) (fun y q e => ?_) (fun y q e => ?_))
      · unfold aArP
        rw [hF, hI] at q ⊢
        rw [if_pos c2, q]
      · have lk := k.like (by omega) sg hx (fun _ => c2) q
        unfold aArP
        rw [hF, hI] at q
        rw [if_pos c2, q]
        unfold edM at e
        rw [if_pos c1, if_pos (by omega)] at e
        exact if_pos (Option.some.inj e)
      · have lk := k.like (by omega) sg hx (fun _ => c2) q
        unfold aArP
        rw [hF, hI] at q
        rw [if_pos c2, q]
        refine if_neg (fun z => e ?_)
        unfold edM
        rw [if_pos c1, if_pos (by omega), z]
    · have ew : aArP w n T b m = w := by
        unfold aArP
        rw [if_neg c2]
      refine wp_neg (by rw [n_eq' (by omega) (by omega)]; omega) (wp_fin trivial ⟨ct, fun _ _ => rfl, by rw [ew]; exact cr, Or.inr ⟨rfl, by rw [ew]; exact qtN.refl⟩⟩)
  · have hF : hoF m = 5 := if_neg c1
    have hI : hoI m = vpI m := if_neg c1
    rw [if_neg c1]
    refine wp_neg (by rw [n_eq' (by omega) (by omega)]; omega) (signed_34 hN cr hn hl hu k hb ha ea a4 sg hx (fun q => absurd q c1) (fun q => ?_) (fun y q e => ?_) (fun y q e => ?_))
    · unfold aArV
      rw [hF, hI] at q ⊢
      rw [q]
    · unfold aArV
      rw [hF, hI] at q
      rw [q]
      exact if_pos e
    · unfold aArV
      rw [hF, hI] at q
      rw [q]
      exact if_neg e
end
end
