section
/-! THE REFERENCE: a message comes; timers end -/
section
variable {N n F H T b : Nat} {S : rS} {w : Wd} {m : List Nat} {G : Gh}
theorem py7 (hB : isB m) : pyT (bg m 1) (bg m 2) (tw m 3) (tw m 5) (bg m 7) = sl m 1 7 := by
  have b4 := hB 4
  have b6 := hB 6
  refine by_ext (by rw [sl_len]; rfl) (fun i hi => ?_)
  have hi : i < 7 := hi
  rw [sl_in hi]
  unfold tw
  rcases (show i = 0 ∨ i = 1 ∨ i = 2 ∨ i = 3 ∨ i = 4 ∨ i = 5 ∨ i = 6 by omega) with e | e | e | e | e | e | e <;> rw [e]
  · rfl
  · rfl
  · show (256 * bg m 3 + bg m 4) / 256 = bg m 3
    omega
  · show (256 * bg m 3 + bg m 4) % 256 = bg m 4
    omega
  · show (256 * bg m 5 + bg m 6) / 256 = bg m 5
    omega
  · show (256 * bg m 5 + bg m 6) % 256 = bg m 6
    omega
  · rfl
theorem GK.got (g : GI F H T G w) (gk : ∀ n, n < H → giK (wN w n)) (hn : n < H) (hb : b < T) (sx : ∀ t tk, skX H T G (b, t, tk, m)) (hw : wf T m) (hB : isB m) : GK F H T (aGot w n T b m) := by
  refine ⟨⟨G, g.got hn hb sx hw hB⟩, fun x hx => ?_⟩
  by_cases e : x = n
  · rw [e]
    rw [aGot_N]
    exact gk n hn
  · rw [(wfr.got.1 x e).1]
    exact gk x hx
theorem come_ok (hN : 6000 ≤ N) (h : rRp F H T S w) (g : GI F H T G w) (gk : ∀ n, n < H → giK (wN w n)) (hn : n < H) (hb : b < T) (sx : ∀ t tk, skX H T G (b, t, tk, m)) (hm : mB S m) (h1 : 1 ≤ m.length) : wp (o_come N S (nI n) (nI b)) (f_come N S (nI n) (nI b)) (fun S' => rRp F H T S' (aCome w n T F b m)) := by
  have cb := h.1.1.b
  have hB : isB m := hm.2.2.2
  have gn := g.2.1 n hn
  have ga := gn.a.2.1
  show wp (O_come_0 N (nI n) (nI b) S) (F_come_0 N (nI n) (nI b) S) _
  unfold O_come_0 F_come_0
  refine wp_call (read_ok hm h1 h.co.2.1 (by omega) (by omega) h.co.2.2.2.2.1) (fun q => ?_)
  obtain ⟨q1, q2, q3, q4⟩ := q
  have hm' := hm.fr q1 (by decide) (by decide)
  have R0 : rRp F H T (f_read N S).2 w := h.sf ⟨q1.mono (by decide), fun x hx => ⟨q2.1 x (by omega), fun i hi => q2.2.1 x i (by omega) hi, fun i hi => q2.2.2 x i (by omega) hi⟩⟩
  generalize f_read N S = y at q1 q2 q3 q4 hm' R0 ⊢
  unfold O_come_4 F_come_4 aCome
  rcases q4 with ⟨w1, w2, w3⟩ | ⟨w1, w2⟩
  rotate_left
  · rw [w2, cif_neg w1]
    exact wp_pos rfl (wp_fin trivial R0)
  rw [w2, cif_pos w1]
  have cm : cmS T m y.2 := ⟨hm', w1, q3, w3⟩
  have GG := GK.got g gk hn hb sx w1 hB
  have k7 : bg m 0 ≤ 7 := by
    by_cases c : bg m 0 ≤ 7
    · exact c
    · exact absurd w1 (wf8 (by omega))
  have fin : ∀ S1, rRp F H T S1 (aGot w n T b m) → wp (O_come_228 N (nI n) S1) (F_come_228 N (nI n) S1) (fun S' => rRp F H T S' (aRules (aGot w n T b m) n T F)) := fun S1 R1 => by
    unfold O_come_228 F_come_228
    exact wp_call (rules_ok hN R1 GG hn) (fun z => wp_fin trivial z)
  have e44 : y.2.2.1 44 n = nI (wN w n 1).toNat := R0.hN hn (k := 1) (by decide) (by decide) (by omega)
  have tk := h.co.2.2.2.2.2.2.1
  generalize y.2 = S0 at q1 q3 hm' R0 w3 cm e44 ⊢
  obtain ⟨r0, r1, r2, r4, r5, r6, r7⟩ := w3
  rw [q3]
  refine wp_neg (show ¬ nI 1 = 0 by decide) (wp_ite (fun c => ?_) (fun c => ?_)) <;> rw [n_eq0 (by omega)] at c
  · obtain ⟨l8, py⟩ := (wf0 c).1 w1
    have fn := fin
    unfold aGot at fn
    rw [if_pos c] at fn
    have a1 := hm'.at_ (i := 1) (by omega)
    have a2 := hm'.at_ (i := 2) (by omega)
    have a3 := hm'.at_ (i := 3) (by omega)
    have a4 := hm'.at_ (i := 4) (by omega)
    have a5 := hm'.at_ (i := 5) (by omega)
    have a6 := hm'.at_ (i := 6) (by omega)
    have a7 := hm'.at_ (i := 7) (by omega)
    have b1 := hB 1
    have b2 := hB 2
    have b3 := hB 3
    have b4 := hB 4
    have b5 := hB 5
    have b6 := hB 6
    have b7 := hB 7
    rw [a1, a2, a3, a4, a5, a6, a7, n_two b3 b4, n_two b5 b6]
    have tp := toPool_ok (N := N) (S := S0) (w := w) (a := bg m 1) (b := bg m 2) (c := tw m 3) (d := tw m 5) (e := bg m 7) (by omega) R0 hn b1 b2 (tw_lt hB 3) (tw_lt hB 5) b7
    rw [py7 hB] at tp
    refine wp_and ((n_in (by omega)).2 (by omega)) (wp_and ((n_in (by omega)).2 (by omega)) (wp_and ((n_in (by omega)).2 (by omega)) (wp_and ((n_in (by omega)).2 (by omega)) (wp_and ((n_in (by omega)).2 (by omega)) (wp_and ((n_in (by omega)).2 (by omega)) (wp_and ((n_in (by omega)).2 (by omega)) (wp_call tp (fun z => ?_))))))))
    show wp (O_come_72 N (nI n) (nI b) (f_toPool N S0 (nI n) (nI (bg m 1)) (nI (bg m 2)) (nI (tw m 3)) (nI (tw m 5)) (nI (bg m 7))).1 (f_toPool N S0 (nI n) (nI (bg m 1)) (nI (bg m 2)) (nI (tw m 3)) (nI (tw m 5)) (nI (bg m 7))).2) (F_come_72 N (nI n) (nI b) (f_toPool N S0 (nI n) (nI (bg m 1)) (nI (bg m 2)) (nI (tw m 3)) (nI (tw m 5)) (nI (bg m 7))).1 (f_toPool N S0 (nI n) (nI (bg m 1)) (nI (bg m 2)) (nI (tw m 3)) (nI (tw m 5)) (nI (bg m 7))).2) _
    obtain ⟨z1, z2, z3⟩ := z
    have hm2 := hm'.fr z1 (by decide) (by decide)
    generalize f_toPool N S0 (nI n) (nI (bg m 1)) (nI (bg m 2)) (nI (tw m 3)) (nI (tw m 5)) (nI (bg m 7)) = x at z1 z2 z3 hm2 ⊢
    unfold O_come_72 F_come_72
    rw [z3]
    unfold aGot
    rw [if_pos c]
    have eT : wT (aPool w n (sl m 1 7)).2 = wT w := wfr.pool.2.1
    cases hp : (aPool w n (sl m 1 7)).1 with
    | false =>
      rw [hp] at fn
      exact wp_pos rfl (fn x.2 z2)
    | true =>
      rw [hp] at fn
      refine wp_neg (show ¬ nI 1 = 0 by decide) (wp_call (sendOn_ok (b := b) (c := b) (tk := wT (aPool w n (sl m 1 7)).2) (T := T) (by omega) z2.co.2.1 (by omega) hm2 (by omega) z2.sk z2.co.2.2.2.2.2.1 (by omega) (by omega) (Or.inr ⟨rfl, rfl⟩) (by rw [eT]; omega)) (fun r => ?_))
      unfold O_come_82 F_come_82
      exact fn _ (z2.sky r.1 r.2)
  refine wp_ite (fun c6 => ?_) (fun c6 => ?_) <;> rw [n_eq' (by omega) (by omega)] at c6
  · obtain ⟨e1, e2⟩ := (wf6 c6).1 w1
    have fn := fin
    unfold aGot at fn ⊢
    rw [if_neg c, if_pos c6] at fn ⊢
    have sz := evSz_le m 1
    have hs : bg m 1 < T := e1.2.1
    refine wp_call (keepProof_ok (by omega) R0 hn hm' (by omega) (by omega) (by omega)) (fun z => ?_)
    obtain ⟨z1, z2, z3⟩ := z
    have hm2 := hm'.fr z1 (by decide) (by decide)
    generalize f_keepProof N S0 (nI n) = x at z1 z2 z3 hm2 ⊢
    unfold O_come_99 F_come_99
    rw [z3]
    have eT : wT (aKp w n m).2 = wT w := wfr.kp.2.1
    cases hp : (aKp w n m).1 with
    | false =>
      rw [hp] at fn
      exact wp_pos rfl (fn x.2 z2)
    | true =>
      rw [hp] at fn
      rw [z1.i 37 (by decide), r6 c6]
      refine wp_neg (show ¬ nI 1 = 0 by decide) (wp_call (sendOn_ok (b := b) (c := bg m 1) (tk := wT (aKp w n m).2) (T := T) (by omega) z2.co.2.1 (by omega) hm2 (by omega) z2.sk z2.co.2.2.2.2.2.1 (by omega) (by omega) (Or.inl ⟨rfl, (by omega)⟩) (by rw [eT]; omega)) (fun r => ?_))
      unfold O_come_112 F_come_112
      exact fn _ (z2.sky r.1 r.2)
  refine wp_ite (fun c7 => ?_) (fun c7 => ?_) <;> rw [n_eq' (by omega) (by omega)] at c7
  · have sn := (wf7 c7).1 w1
    have fn := fin
    unfold aGot at fn ⊢
    rw [if_neg c, if_neg c6, if_pos c7] at fn ⊢
    have s38 := (r7 c7).2
    have tl := tw_lt hB 1
    rw [n_clamp (by omega), e44, s38]
    refine wp_and ((n_in (by omega)).2 (by omega)) (wp_ite (fun d => ?_) (fun d => ?_)) <;> rw [n_le' (by omega) (by omega)] at d
    · rw [if_neg (by omega)] at fn ⊢
      exact fn S0 R0
    · rw [if_pos (by omega)] at fn ⊢
      rw [n_mul, n_add]
      refine wp_call (keepSnap_ok (s := b) (m := m) (by omega) R0 hn hm' (by omega) sn.1 s38 (by have := sn.2.1; omega)) (fun z => ?_)
      unfold O_come_147 F_come_147
      exact fn _ z.2
  have s38 : S0.1 38 = nI (htM m) := by
    unfold htM
    rcases (show bg m 0 = 1 ∨ bg m 0 = 2 ∨ bg m 0 = 3 ∨ bg m 0 = 4 ∨ bg m 0 = 5 by omega) with e | e | e | e | e
    · rw [if_pos (Or.inl e)]; exact (r1 e).2.1
    · rw [if_pos (by omega)]; exact (r2 (Or.inl e)).2.1
    · rw [if_pos (by omega)]; exact (r2 (Or.inr e)).2.1
    · rw [if_neg (by omega)]; exact (r4 e).2.1
    · rw [if_neg (by omega)]; exact (r5 e).2
  have hl : htM m < 65536 := by
    unfold htM
    split
    · exact tw_lt hB 2
    · exact tw_lt hB 1
  have fn := fin
  unfold aGot at fn ⊢
  rw [if_neg c, if_neg c6, if_neg c7] at fn ⊢
  rw [n_clamp (by omega), e44, s38]
  refine wp_and ((n_in (by omega)).2 (by omega)) (wp_ite (fun d => ?_) (fun d => ?_)) <;> rw [n_le' (by omega) (by omega)] at d
  · rw [if_neg (show ¬ (htM m : Int) < wN w n 1 by omega)] at fn ⊢
    refine wp_ite (fun c5 => ?_) (fun c5 => ?_) <;> rw [n_eq' (by omega) (by omega)] at c5
    · rw [if_pos c5] at fn ⊢
      refine wp_and ((n_in (by omega)).2 (by omega)) (wp_ite (fun d2 => ?_) (fun d2 => ?_)) <;> rw [n_eq' (by omega) (by omega)] at d2
      · rw [if_pos (show (htM m : Int) = wN w n 1 by omega)] at fn ⊢
        refine wp_call (answerHeld_ok (t := b) (by omega) R0 gn hn (by omega)) (fun z => ?_)
        unfold O_come_219 F_come_219
        exact fn _ z
      · rw [if_neg (show ¬ (htM m : Int) = wN w n 1 by omega)] at fn ⊢
        exact fn S0 R0
    · rw [if_neg c5] at fn ⊢
      refine wp_call (arrive_ok (by omega) R0 gn hn (by omega) cm (by omega)) (fun z => ?_)
      exact fn _ z
  · rw [if_pos (show (htM m : Int) < wN w n 1 by omega)] at fn ⊢
    have an : (bg m 0 = 5 ∨ (bg m 0 ≠ 4 ∧ bg m 1 = b)) → wp (O_come_179 N (nI n) (nI b) S0) (F_come_179 N (nI n) (nI b) S0) (fun S' => rRp F H T S' (aRules (if bg m 0 = 5 ∨ (bg m 0 ≠ 4 ∧ bg m 1 = b) then aPost w n b (anB w n (htM m)) else w) n T F)) := fun z => by
      rw [if_pos z] at fn ⊢
      unfold O_come_179 F_come_179
      rw [s38]
      refine wp_call (answer_ok (t := b) (x := htM m) (by omega) R0 hn (by omega) (by omega) (by omega)) (fun r => ?_)
      unfold O_come_189 F_come_189
      exact fn _ r
    refine wp_ite (fun c5 => ?_) (fun c5 => ?_) <;> rw [n_eq' (by omega) (by omega)] at c5
    · exact an (Or.inl c5)
    · by_cases c4 : bg m 0 = 4
      · rw [(r4 c4).1]
        refine wp_neg (fun z => ?_) ?_
        · rw [show (-1 : Int32) = iI (-1) from rfl, ← iI_n b, iI_eq (by omega) (by omega) (by omega) (by omega)] at z
          omega
        · have ne : ¬ (bg m 0 = 5 ∨ (bg m 0 ≠ 4 ∧ bg m 1 = b)) := by omega
          rw [if_neg ne] at fn ⊢
          exact fn S0 R0
      · have s37 : S0.1 37 = nI (bg m 1) := by
          rcases (show bg m 0 = 1 ∨ bg m 0 = 2 ∨ bg m 0 = 3 by omega) with e | e | e
          · exact (r1 e).1
          · exact (r2 (Or.inl e)).1
          · exact (r2 (Or.inr e)).1
        have b1 := hB 1
        rw [s37]
        refine wp_ite (fun d2 => ?_) (fun d2 => ?_) <;> rw [n_eq' (by omega) (by omega)] at d2
        · exact an (Or.inr ⟨c4, d2⟩)
        · have ne : ¬ (bg m 0 = 5 ∨ (bg m 0 ≠ 4 ∧ bg m 1 = b)) := by omega
          rw [if_neg ne] at fn ⊢
          exact fn S0 R0
end
end
