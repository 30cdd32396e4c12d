section
/-! OWN MESSAGES: written down, held, sent -/
section
variable {N n F H T : Nat} {S S1 : rS} {w : Wd}
/-- an own message is written down -/
theorem rRp.own {i p : Nat} {m : List Nat} (h : rRp F H T S w) (hn : n < H) (hi : wN w n 17 = i) (hi64 : i < 64) (fr : rfr [12, 13, 14, 66, 67, 68, 69, 70] S S1) (fp : pO1 p S S1) (hp : (p = 1144 + 16 * n + bg m 4 ∧ ∀ (j : Nat) y, j < i → wY w n 8 j = some y → bg y 0 = 1 → bg y 4 ≠ bg m 4) ∨ 2000 ≤ p) (x6 : ∀ k, 66 ≤ k → k ≤ 69 → ∀ x, x ≠ 64 * n + i → S1.2.1 k x = S.2.1 k x) (x7 : ∀ x, ¬ (4 * (64 * n + i) ≤ x ∧ x < 4 * (64 * n + i) + 4) → S1.2.2 70 x = S.2.2 70 x) (e66 : S1.2.1 66 (64 * n + i) = nI (bg m 0)) (e67 : S1.2.1 67 (64 * n + i) = nI (bg m 4)) (h4 : bg m 4 < 16) (new1 : bg m 0 = 1 → S1.2.1 68 (64 * n + i) = iI (prV m) ∧ bR S1 (1144 + 16 * n + bg m 4) (m.drop 6) ∧ bOK (m.drop 6)) (new2 : bg m 0 ≠ 1 → (bg m 0 = 2 ∨ bg m 0 = 3) ∧ bg m 5 ≤ 1 ∧ S1.2.1 69 (64 * n + i) = nI (bg m 5) ∧ idL (S1.2.2 70 (4 * (64 * n + i))) (S1.2.2 70 (4 * (64 * n + i) + 1)) (S1.2.2 70 (4 * (64 * n + i) + 2)) (S1.2.2 70 (4 * (64 * n + i) + 3)) (voD m)) : rRp F H T (rsA S1 65 n (nI (i + 1))) (sN (sBy w n 8 i (some m)) n 17 (i + 1 : Nat)) := by
  have cb := h.1.1.b
  have fr2 : rfr [12, 13, 14, 65, 66, 67, 68, 69, 70] S (rsA S1 65 n (nI (i + 1))) := (fr.mono (by decide)).trans (rfr.one (by decide))
  have pl : ∀ {q : Nat} {o : Option (List Nat)}, oR S q o → q ≠ p → oR (rsA S1 65 n (nI (i + 1))) q o := fun ho hq => (ho.p fp hq).fr (rfr.one (L := [65]) (by decide)) (by decide) (by decide) (by decide)
  have ge : 1144 ≤ p := by omega
  refine ⟨h.co.fr fr2 (by decide), h.sk.fr fr2 (by decide), ?_, (h.wh.fr fr2 (by decide)).cg (fun m j hm a b => N_o _ _ _ _ (by omega)), h.x.fr fr2 (by decide), fun k hk => ?_, fun k q hk hq => ?_, (h.v.fr fr2 (by decide) (by decide) (by decide) (by decide) (by decide)).cg (fun m q hm hq => B_o _ _ _ _ _ (by omega)), fun k s hk hs => ?_, fun k s hk hs => ?_, fun k j hk hj => ?_, h.p.fr fr2 (by decide) (by decide), (h.e.fr fr2 (by decide) (by decide)).cg (fun m q hm hq => B_o _ _ _ _ _ (by omega)), (h.s.fr fr2 (by decide) (by decide)).cg (fun m q hm hq => B_o _ _ _ _ _ (by omega)), (h.k.fr fr2 (by decide)).cg (fun m hm => N_o _ _ _ _ (by omega)) (fun m j hm a b => N_o _ _ _ _ (by omega)) (fun m q hm => B_o _ _ _ _ _ (by omega)) (fun m hm => B_o _ _ _ _ _ (by omega))⟩
  · have := (h.n.fr fr (by decide)).set (w := sBy w n 8 i (some m)) (n := n) (k := 17) (v := (i + 1 : Nat)) (by decide)
    rw [iI_n] at this
    exact this
  · have := h.l k hk
    refine ⟨?_, ?_⟩
    · show oR _ _ (wY (sBy w n 8 i (some m)) k 0 0)
      rw [B_o _ _ _ _ _ (by omega)]
      exact pl this.1 (by omega)
    · show oR _ _ (wY (sBy w n 8 i (some m)) k 1 0)
      rw [B_o _ _ _ _ _ (by omega)]
      exact pl this.2 (by omega)
  · have := h.hd k q hk hq
    show hR _ _ (wY (sBy w n 8 i (some m)) k 4 q)
    rw [B_o _ _ _ _ _ (by omega)]
    refine ⟨pl this.1 (by omega), ?_⟩
    rw [fr2.a 59 (by decide)]
    exact this.2
  · show oR _ _ ((wY (sBy w n 8 i (some m)) k 6 s).map (List.drop 1))
    rw [B_o _ _ _ _ _ (by omega)]
    exact pl (h.d k s hk hs) (by omega)
  · show oR _ _ (wY (sBy w n 8 i (some m)) k 7 s)
    rw [B_o _ _ _ _ _ (by omega)]
    exact pl (h.c k s hk hs) (by omega)
  · show j < 64 ∧ ∃ y, wY (sBy w n 8 i (some m)) k 8 j = some y ∧ _
    by_cases c : k = n ∧ j = i
    · obtain ⟨rfl, rfl⟩ := c
      refine ⟨hi64, m, B_s _ _ _ _ _, ?_⟩
      rw [A_other _ _ _ (by decide), A_other _ _ _ (by decide), A_other _ _ _ (by decide), A_other _ _ _ (by decide)]
      exact ⟨e66, e67, h4, fun z => ⟨(new1 z).1, (new1 z).2.1.fr (rfr.one (L := [65]) (by decide)) (by decide) (by decide) (by decide), (new1 z).2.2⟩, new2⟩
    · have hj2 : (j : Int) < wN w k 17 := by
        by_cases e : k = n
        · rw [e, N_s] at hj
          rw [e, hi]
          omega
        · rw [N_o _ _ _ _ (Or.inl e)] at hj
          exact hj
      obtain ⟨a, y, a1, a2, a3, a4, a5, a6⟩ := h.g k j hk hj2
      have ne : 64 * k + j ≠ 64 * n + i := by omega
      refine ⟨a, y, by rw [B_o _ _ _ _ _ (by omega)]; exact a1, ?_⟩
      rw [A_other _ _ _ (by decide), A_other _ _ _ (by decide), A_other _ _ _ (by decide), A_other _ _ _ (by decide), A_L, x6 66 (by omega) (by omega) _ ne, x6 67 (by omega) (by omega) _ ne, x6 68 (by omega) (by omega) _ ne, x6 69 (by omega) (by omega) _ ne, x7 _ (by omega), x7 _ (by omega), x7 _ (by omega), x7 _ (by omega)]
      refine ⟨a2, a3, a4, fun z => ?_, a6⟩
      obtain ⟨b1, b2, b3⟩ := a5 z
      have : oR S (1144 + 16 * k + bg y 4) (some (y.drop 6)) := ⟨b2, b3⟩
      refine ⟨b1, (pl this ?_).1, b3⟩
      rcases hp with ⟨hp, hf⟩ | hp
      · by_cases e : k = n
        · rw [e, hi] at hj2
          have := hf j y (by omega) (by rw [← e]; exact a1) z
          omega
        · omega
      · omega
/-- an own message is held, if its place is free -/
def hdI (w : Wd) (n : Nat) (m : List Nat) : Nat := 16 * ((wN w n 1).toNat % 2) + bg m 4
def vtI (w : Wd) (n : Nat) (m : List Nat) : Nat := vq (if bg m 0 = 3 then 1 else 0) ((wN w n 1).toNat % 2) (bg m 4) n
def aHeld (w : Wd) (n : Nat) (m : List Nat) : Wd := if bg m 0 = 1 then (match wY w n 4 (hdI w n m) with | none => sBy w n 4 (hdI w n m) (some m) | some _ => w) else (match wY w n 5 (vtI w n m) with | none => sBy w n 5 (vtI w n m) (some m) | some _ => w)
def hoL : List Nat := [12, 13, 14, 59, 60, 61, 62, 63, 64]
theorem holdLogged_ok {i : Nat} {m : List Nat} (hN : 1000 ≤ N) (h : rRp F H T S w) (hn : n < H) (hi : (i : Int) < wN w n 17) (hm : wY w n 8 i = some m) (h1 : 0 ≤ wN w n 1 ∧ wN w n 1 ≤ 41) : wp (o_holdLogged N S (nI n) (nI i)) (f_holdLogged N S (nI n) (nI i)) (fun S' => rfr hoL S S' ∧ rRp F H T S' (aHeld w n m)) := by
  have cb := h.1.1.b
  have e44 : S.2.1 44 n = nI (wN w n 1).toNat := by
    have := h.num hn 1 (by decide) (by decide)
    rw [← Int.toNat_of_nonneg h1.1, iI_n] at this
    exact this
  obtain ⟨i64, y, a1, a2, a3, a4, a5, a6⟩ := h.g n i hn hi
  rw [hm] at a1
  cases a1
  have p2 : (wN w n 1).toNat % 2 < 2 := Nat.mod_lt _ (by decide)
  show wp (O_holdLogged_0 N (nI n) (nI i) S) (F_holdLogged_0 N (nI n) (nI i) S) _
  unfold O_holdLogged_0 F_holdLogged_0
  simp only [n_mul, n_add]
  rw [n_clamp (by omega), n_clamp (by omega), a2, a3, e44, heldAt_ok (by omega)]
  simp only [n_add]
  refine wp_and ((n_in (by omega)).2 (by omega)) (wp_and ((n_in (by omega)).2 (by omega)) ?_)
  unfold aHeld
  have vote : bg m 0 ≠ 1 → ∀ c : Nat, c = (if bg m 0 = 3 then 1 else 0) → wp (O_holdLogged_99 N (nI n) (nI (64 * n + i)) (nI (bg m 4)) (nI c) S) (F_holdLogged_99 N (nI n) (nI (64 * n + i)) (nI (bg m 4)) (nI c) S) (fun S' => rfr hoL S S' ∧ rRp F H T S' (match wY w n 5 (vtI w n m) with | none => sBy w n 5 (vtI w n m) (some m) | some _ => w)) := by
    intro b0 c hc
    have c1 : c ≤ 1 := by rw [hc]; split <;> omega
    obtain ⟨v1, v2⟩ := voteAt_ok (N := N) (S := S) (n := n) (c := c) (h := (wN w n 1).toNat) (r := bg m 4) (s := n) c1 (by omega)
    have ev : 13 * (32 * n + 16 * ((wN w n 1).toNat % 2) + bg m 4) + n + 5408 * c = vix n (vtI w n m) := by
      unfold vtI
      rw [← hc]
      unfold vix vq
      split <;> omega
    have q8 : vtI w n m < 832 := by
      unfold vtI
      rw [← hc]
      unfold vq
      omega
    rw [ev] at v2
    have vlt : vix n (vtI w n m) < 10816 := by unfold vix; split <;> omega
    obtain ⟨k1, k2, k3, k4⟩ := a6 b0
    have hv := h.v n (vtI w n m) hn q8
    unfold O_holdLogged_99 F_holdLogged_99
    rw [n_clamp (by omega), e44, v2, n_clamp (by omega)]
    refine wp_and ((n_in (by omega)).2 (by omega)) (wp_and v1 (wp_and ((n_in (by omega)).2 (by omega)) ?_))
    cases hy : wY w n 5 (vtI w n m) with
    | none =>
      rw [hy] at hv
      have hv : S.2.1 60 (vix n (vtI w n m)) = nI 0 := hv
      simp only [n_mul, n_add]
      rw [hv, n_clamp (by omega), n_clamp (by omega), n_clamp (by omega), n_clamp (by omega), n_clamp (by omega), k3]
      refine wp_pos rfl (wp_and ((n_in (by omega)).2 (by omega)) (wp_and ((n_in (by omega)).2 (by omega)) (wp_and ((n_in (by omega)).2 (by omega)) (wp_and ((n_in (by omega)).2 (by omega)) (wp_and ((n_in (by omega)).2 (by omega)) (wp_call (setVote_ok h hn q8 k2 k4) (fun q => ?_)))))))
      exact wp_fin trivial ⟨q.1.mono (by decide), q.2⟩
    | some z =>
      rw [hy] at hv
      have h5 := hv.2.1
      rw [hv.1]
      exact wp_neg (by rw [n_eq0 (by omega)]; omega) (wp_fin trivial ⟨rfr.refl, h⟩)
  refine wp_ite (fun c => ?_) (fun c => ?_) <;> rw [n_eq' (by omega) (by omega)] at c
  · rw [if_pos c]
    obtain ⟨b1, b2, b3⟩ := a5 c
    have hq : hdI w n m < 32 := by unfold hdI; omega
    have eh : 0 + (32 * n + 16 * ((wN w n 1).toNat % 2) + bg m 4) = 32 * n + hdI w n m := by unfold hdI; omega
    rw [eh]
    have hh := h.hd n (hdI w n m) hn hq
    obtain ⟨t1, t2⟩ := isThere_ok (N := N) (p := 32 * n + hdI w n m) (by omega) hh.1
    rw [t2]
    refine wp_and ((n_in (by omega)).2 (by omega)) (wp_and trivial (wp_and t1 ?_))
    cases hy : wY w n 4 (hdI w n m) with
    | some z => exact wp_neg (show ¬ nI 1 = 0 by decide) (wp_fin trivial ⟨rfr.refl, h⟩)
    | none =>
      refine wp_pos rfl (wp_call (copyBlock_ok (p := 1144 + 16 * n + bg m 4) (q := 32 * n + hdI w n m) (by omega) (by omega) (by omega) b2 b3.2.1 (by omega)) (fun q => ?_))
      obtain ⟨q1, q2, q3⟩ := q
      generalize f_copyBlock N S (nI (1144 + 16 * n + bg m 4)) (nI (32 * n + hdI w n m)) = S1 at q1 q2 q3 ⊢
      unfold O_holdLogged_68 F_holdLogged_68
      rw [n_sub (by omega), Nat.sub_zero, n_clamp (by omega), n_clamp (by omega), q1.a 68 (by decide), b1]
      refine wp_fin ⟨((n_in (by omega)).2 (by omega)), ((n_in (by omega)).2 (by omega)), trivial⟩ ⟨(q1.mono (by decide)).trans (rfr.one (by decide)), ?_⟩
      refine h.put (p := 32 * n + hdI w n m) hn (by unfold plc; omega) (by omega) ((q1.mono (by decide)).trans (rfr.one (by decide))) ⟨fun x hx => ?_, fun x k hx hk => ?_, fun x k hx hk => ?_⟩ (fun x hx => ?_) ?_ (fun _ x hx => ?_)
      · rw [A_other _ _ _ (by decide)]
        exact q2.1 x hx
      · rw [A_L]
        exact q2.2.1 x k hx hk
      · rw [A_L]
        exact q2.2.2 x k hx hk
      · rw [A_same, upd_other _ _ (hx rfl), q1.a 59 (by decide)]
      · have : oR S1 (32 * n + hdI w n m) (some (m.drop 6)) := ⟨q3, b3⟩
        exact this.fr (rfr.one (L := [59]) (by decide)) (by decide) (by decide) (by decide)
      · cases hx
        rw [A_same, upd_same]
  · rw [if_neg c]
    refine wp_and ((n_in (by omega)).2 (by omega)) (wp_ite (fun c3 => ?_) (fun c3 => ?_)) <;> rw [n_eq' (by omega) (by omega)] at c3
    · exact vote c 1 (by rw [if_pos c3])
    · exact vote c 0 (by rw [if_neg c3])
/-- a message is sent by a node to all others -/
def aAll (w : Wd) (n T : Nat) (m : List Nat) : Wd := sK w (pstN (wK w) n (wT w) m (fun j => decide (j ≠ n)) T)
/-- an own message goes out: written down, sent, held -/
def aSend (w : Wd) (n T : Nat) (m : List Nat) : Wd := aHeld (aAll (sN (sBy w n 8 (wN w n 17).toNat (some m)) n 17 ((wN w n 17).toNat + 1 : Nat)) n T m) n m
def seL : List Nat := [12, 13, 14, 59, 60, 61, 62, 63, 64, 65] ++ skL
theorem sendLogged_ok {i p : Nat} {m : List Nat} (hN : 1000 ≤ N) (h : rRp F H T S w) (hn : n < H) (hi : wN w n 17 = i) (hi64 : i < 64) (h1 : 0 ≤ wN w n 1 ∧ wN w n 1 ≤ 41) (hm : mB S1 m) (hm1 : 1 ≤ m.length) (fr : rfr [12, 13, 14, 66, 67, 68, 69, 70] S S1) (fp : pO1 p S S1) (hp : (p = 1144 + 16 * n + bg m 4 ∧ ∀ (j : Nat) y, j < i → wY w n 8 j = some y → bg y 0 = 1 → bg y 4 ≠ bg m 4) ∨ 2000 ≤ p) (x6 : ∀ k, 66 ≤ k → k ≤ 69 → ∀ x, x ≠ 64 * n + i → S1.2.1 k x = S.2.1 k x) (x7 : ∀ x, ¬ (4 * (64 * n + i) ≤ x ∧ x < 4 * (64 * n + i) + 4) → S1.2.2 70 x = S.2.2 70 x) (e66 : S1.2.1 66 (64 * n + i) = nI (bg m 0)) (e67 : S1.2.1 67 (64 * n + i) = nI (bg m 4)) (h4 : bg m 4 < 16) (new1 : bg m 0 = 1 → S1.2.1 68 (64 * n + i) = iI (prV m) ∧ bR S1 (1144 + 16 * n + bg m 4) (m.drop 6) ∧ bOK (m.drop 6)) (new2 : bg m 0 ≠ 1 → (bg m 0 = 2 ∨ bg m 0 = 3) ∧ bg m 5 ≤ 1 ∧ S1.2.1 69 (64 * n + i) = nI (bg m 5) ∧ idL (S1.2.2 70 (4 * (64 * n + i))) (S1.2.2 70 (4 * (64 * n + i) + 1)) (S1.2.2 70 (4 * (64 * n + i) + 2)) (S1.2.2 70 (4 * (64 * n + i) + 3)) (voD m)) : wp (o_sendLogged N S1 (nI n)) (f_sendLogged N S1 (nI n)) (fun S' => rfr seL S1 S' ∧ rRp F H T S' (aSend w n T m)) := by
  have cb := h.1.1.b
  have e65 : S1.2.1 65 n = nI i := by
    have := h.num hn 17 (by decide) (by decide)
    rw [hi, iI_n] at this
    rw [fr.a 65 (by decide)]
    exact this
  have own := h.own hn hi hi64 fr fp hp x6 x7 e66 e67 h4 new1 new2
  have ei : (wN w n 17).toNat = i := by rw [hi]; rfl
  unfold aSend
  rw [ei]
  show wp (O_sendLogged_0 N (nI n) S1) (F_sendLogged_0 N (nI n) S1) _
  unfold O_sendLogged_0 F_sendLogged_0
  rw [n_clamp (by omega), e65, n_add]
  have fs : rfr [65] S1 (rsA S1 65 n (nI (i + 1))) := rfr.one (by decide)
  have hm2 : mB (rsA S1 65 n (nI (i + 1))) m := hm.fr fs (by decide) (by decide)
  generalize rsA S1 65 n (nI (i + 1)) = S2 at own fs hm2 ⊢
  have hw : wN (sN (sBy w n 8 i (some m)) n 17 (i + 1 : Nat)) n 17 = (i + 1 : Nat) := N_s _ _ _ _
  have hw1 : wN (sN (sBy w n 8 i (some m)) n 17 (i + 1 : Nat)) n 1 = wN w n 1 := N_o _ _ _ _ (by omega)
  have hw8 : wY (sN (sBy w n 8 i (some m)) n 17 (i + 1 : Nat)) n 8 i = some m := B_s _ _ _ _ _
  generalize sN (sBy w n 8 i (some m)) n 17 (i + 1 : Nat) = w1 at own hw hw1 hw8 ⊢
  refine wp_and ((n_in (by omega)).2 (by omega)) (wp_and ((n_in (by omega)).2 (by omega)) (wp_call (flyAll_ok hN own.co.2.1 cb.1 hm2 hm1 own.sk own.co.2.2.2.2.2.1 (by omega) (by have := own.co.2.2.2.2.2.2.1; omega)) (fun q => ?_)))
  obtain ⟨q1, q2⟩ := q
  generalize f_flyAll N S2 (nI n) = S3 at q1 q2 ⊢
  have r3 : rRp F H T S3 (aAll w1 n T m) := own.sky q1 q2
  unfold O_sendLogged_21 F_sendLogged_21
  refine wp_call (holdLogged_ok (m := m) hN r3 hn (by show (i : Int) < wN w1 n 17; rw [hw]; omega) hw8 (by show 0 ≤ wN w1 n 1 ∧ wN w1 n 1 ≤ 41; rw [hw1]; exact h1)) (fun q3 => wp_ret ⟨?_, q3.2⟩)
  exact ((fs.mono (by decide)).trans (q1.mono (by decide))).trans (q3.1.mono (by decide))
end
end
