section
/-! WHAT COMES TO A NODE OF THE REFERENCE -/
/-- a node sends a message on, to all but itself and two -/
def aOn (w : Wd) (n T b c : Nat) (m : List Nat) : Wd := sK w (pstN (wK w) n (wT w) m (fun j => decide (j ≠ n ∧ j ≠ b ∧ j ≠ c)) T)
def hpI (m : List Nat) : Nat := 16 * (tw m 2 % 2) + bg m 4
def vpI (m : List Nat) : Nat := vq (bg m 0 - 2) (tw m 2 % 2) (bg m 4) (bg m 1)
noncomputable def aArP (w : Wd) (n T b : Nat) (m : List Nat) : Wd := if bg m 1 = (tw m 2 + bg m 4) % T then (match wY w n 4 (hpI m) with
  | none => aOn (sBy w n 4 (hpI m) (some m)) n T b (bg m 1) m
  | some y => if idB (m.drop 6) = idB (y.drop 6) then w else aEv w n T m y) else w
noncomputable def aArV (w : Wd) (n T b : Nat) (m : List Nat) : Wd := match wY w n 5 (vpI m) with
  | none => aOn (sBy w n 5 (vpI m) (some m)) n T b (bg m 1) m
  | some y => if edM m = edM y then w else aEv w n T m y
/-- the height that a message tells -/
def htM (m : List Nat) : Nat := if bg m 0 = 1 ∨ bg m 0 = 2 ∨ bg m 0 = 3 then tw m 2 else tw m 1
noncomputable def aArr2 (w : Wd) (n T b : Nat) (m : List Nat) : Wd := if bg m 0 = 4 then (if (htM m : Int) = wN w n 1 ∧ wY w n 6 b = none then sBy w n 6 b (some m) else w) else if (htM m : Int) ≤ wN w n 1 + 1 then (if bg m 0 = 1 then aArP w n T b m else aArV w n T b m) else w
noncomputable def aArr (w : Wd) (n T b : Nat) (m : List Nat) : Wd := if wN w n 1 < (htM m : Int) then aArr2 (aPost w n b (asB (wN w n 1).toNat)) n T b m else aArr2 w n T b m
section
variable {N n F H T b : Nat} {S : rS} {w : Wd} {m : List Nat} {G : Gh}
/-- a message that came, and was read -/
def cmS (T : Nat) (m : List Nat) (S : rS) : Prop := mB S m ∧ wf T m ∧ S.1 36 = nI (bg m 0) ∧ rdO m S
theorem cmS.fr {L : List Nat} {S1 : rS} (h : cmS T m S) (f : rfr L S S1) (hL : ∀ k ∈ [12, 13, 14, 32, 33, 36, 37, 38, 39, 40, 41, 42], k ∉ L) : cmS T m S1 := by
  obtain ⟨a, c, d, e1, e2, e3, e4, e5, e6, e7⟩ := h
  have i : ∀ k ∈ [36, 37, 38, 39, 40, 41], S1.1 k = S.1 k := fun k hk => f.i k (hL k (by
    simp only [List.mem_cons, List.not_mem_nil, or_false] at hk ⊢
    omega))
  refine ⟨a.fr f (hL _ (by decide)) (hL _ (by decide)), c, by rw [i 36 (by decide)]; exact d, ?_⟩
  unfold rdO
  rw [i 37 (by decide), i 38 (by decide), i 39 (by decide), i 40 (by decide), i 41 (by decide)]
  refine ⟨e1, fun z => ?_, fun z => ?_, fun z => ?_, e5, e6, e7⟩
  · obtain ⟨a1, a2, a3, a4, a5⟩ := e2 z
    exact ⟨a1, a2, a3, a4, a5.fr f (hL _ (by decide)) (hL _ (by decide)) (hL _ (by decide))⟩
  · obtain ⟨a1, a2, a3, a4, a5⟩ := e3 z
    exact ⟨a1, a2, a3, a4, a5.fr f (hL _ (by decide))⟩
  · obtain ⟨a1, a2, a3⟩ := e4 z
    exact ⟨a1, a2, a3.fr f (hL _ (by decide)) (hL _ (by decide)) (hL _ (by decide))⟩
theorem arriveProposal_ok (hN : 1000 ≤ N) (h : rRp F H T S w) (g : GN F H T G w n) (hn : n < H) (hb : b < 13) (hm : cmS T m S) (h0 : bg m 0 = 1) : wp (o_arriveProposal N S (nI n) (nI b)) (f_arriveProposal N S (nI n) (nI b)) (fun S' => rRp F H T S' (aArP w n T b m)) := by
  have cb := h.1.1.b
  obtain ⟨m1, m2, m3, m4⟩ := hm
  have hB : isB m := m1.2.2.2
  have pr := (wf1 h0).1 m2
  obtain ⟨⟨p1, p2, p3⟩, p4, p5, p6⟩ := pr
  unfold hOK at p2
  obtain ⟨d37, d38, d39, d40, dbR⟩ := m4.2.1 h0
  have bl := p5.len
  have bok : bOK (m.drop 6) := ⟨bl.1, bl.2, isB_drop hB 6⟩
  have hl6 : m.length ≥ 107 := by rw [List.length_drop] at bl; omega
  have q32 : hpI m < 32 := by unfold hpI; omega
  have eq : 32 * n + 16 * (tw m 2 % 2) + bg m 4 = 32 * n + hpI m := by unfold hpI; omega
  obtain ⟨pp1, pp2⟩ := proposer_ok (N := N) (S := S) (T := T) (h := tw m 2) (r := bg m 4) h.co.2.1 (by omega) (by omega)
  have md : (tw m 2 + bg m 4) % T < T := Nat.mod_lt _ (by omega)
  show wp (O_arriveProposal_0 N (nI n) (nI b) S) (F_arriveProposal_0 N (nI n) (nI b) S) _
  unfold O_arriveProposal_0 F_arriveProposal_0 aArP
  rw [d37, d38, d39, pp2, heldAt_ok (by omega), n_add, Nat.zero_add, eq]
  refine wp_and pp1 (wp_ite (fun c => ?_) (fun c => ?_)) <;> rw [n_eq' (by omega) (by omega)] at c
  rotate_left
  · rw [if_neg c]
    exact wp_fin trivial h
  rw [if_pos c]
  have hh := h.hd n (hpI m) hn q32
  obtain ⟨t1, t2⟩ := isThere_ok (N := N) (p := 32 * n + hpI m) (by omega) hh.1
  rw [t2]
  refine wp_and trivial (wp_and t1 ?_)
  cases hy : wY w n 4 (hpI m) with
  | none =>
    refine wp_pos rfl (wp_call (copyBlock_ok (p := 1352) (q := 32 * n + hpI m) (by omega) (by omega) (by omega) dbR bl.2 (by omega)) (fun z => ?_))
    obtain ⟨g1, g2, g3⟩ := z
    generalize f_copyBlock N S (nI 1352) (nI (32 * n + hpI m)) = S1 at g1 g2 g3 ⊢
    unfold O_arriveProposal_51 F_arriveProposal_51
    rw [n_sub (by omega), Nat.sub_zero, n_clamp (by omega), g1.i 40 (by decide), d40]
    have f1 : rfr [12, 13, 14, 59] S (rsA S1 59 (32 * n + hpI m) (iI (prV m))) := (g1.mono (by decide)).trans (rfr.one (by decide))
    have f2 : pO1 (32 * n + hpI m) S (rsA S1 59 (32 * n + hpI m) (iI (prV m))) := g2
    have g3' : bR (rsA S1 59 (32 * n + hpI m) (iI (prV m))) (32 * n + hpI m) (m.drop 6) := g3
    have x59 : (rsA S1 59 (32 * n + hpI m) (iI (prV m))).2.1 59 = upd (S1.2.1 59) (32 * n + hpI m) (iI (prV m)) := A_same _ _ _ _
    have e37 : (rsA S1 59 (32 * n + hpI m) (iI (prV m))).1 37 = nI (bg m 1) := by rw [f1.i 37 (by decide)]; exact d37
    have m1' : mB (rsA S1 59 (32 * n + hpI m) (iI (prV m))) m := m1.fr f1 (by decide) (by decide)
    rw [e37]
    generalize rsA S1 59 (32 * n + hpI m) (iI (prV m)) = S2 at f1 f2 g3' x59 e37 m1' ⊢
    have R2 : rRp F H T S2 (sBy w n 4 (hpI m) (some m)) := h.put (f := 4) (i := hpI m) (p := 32 * n + hpI m) hn (by unfold plc; omega) (fun z => absurd z (by decide)) f1 f2 (fun x hx => by
      rw [x59, upd_other _ _ (hx rfl), g1.a 59 (by decide)]) (by
      show oR S2 (32 * n + hpI m) ((some m).map (List.drop (plD 4)))
      exact ⟨g3', bok⟩) (fun _ m' e => by cases e; rw [x59, upd_same])
    refine wp_and ((n_in (by omega)).2 (by omega)) (wp_call (sendOn_ok (b := b) (c := bg m 1) (tk := wT w) (T := T) hN R2.co.2.1 (by omega) m1' (by omega) R2.sk R2.co.2.2.2.2.2.1 (by omega) hb (Or.inl ⟨rfl, (by omega)⟩) (by have := h.co.2.2.2.2.2.2.1; omega)) (fun r => ?_))
    unfold O_arriveProposal_73 F_arriveProposal_73 O_arriveProposal_149 F_arriveProposal_149
    exact wp_fin trivial (R2.sky r.1 r.2)
  | some y =>
    rw [hy] at hh
    have hob : oR S (32 * n + hpI m) (some (y.drop 6)) := hh.1
    obtain ⟨y1, y2, y3, y4, y5, y6, y7, y8⟩ := g.hd (tw m 2 % 2) (bg m 4) y (by omega) (by omega) hy
    obtain ⟨s1, s2⟩ := sameBlock_ok (N := N) (S := S) (p := 1352) (q := 32 * n + hpI m) (o := some (m.drop 6)) (o2 := some (y.drop 6)) (by omega) (by omega) ⟨dbR, bok⟩ hob (by omega)
    refine wp_neg (show ¬ nI 1 = 0 by decide) (wp_and s1 ?_)
    have eM : edM m = some (idB (m.drop 6)) := by unfold edM; rw [if_pos h0]
    have eY : edM y = some (idB (y.drop 6)) := by unfold edM; rw [if_pos y1]
    rcases s2 with ⟨s2, s3⟩ | ⟨s2, s3⟩ <;> rw [s3]
    · refine wp_neg (by decide) ?_
      obtain ⟨a, a', a1, a2, a3⟩ := s2
      cases a1
      cases a2
      show wp _ _ (fun S' => rRp F H T S' (if idB (m.drop 6) = idB (y.drop 6) then w else aEv w n T m y))
      rw [if_pos a3]
      unfold O_arriveProposal_149 F_arriveProposal_149
      exact wp_fin trivial h
    · show wp _ _ (fun S' => rRp F H T S' (if idB (m.drop 6) = idB (y.drop 6) then w else aEv w n T m y))
      rw [if_neg (fun z => s2 ⟨_, _, rfl, rfl, z⟩)]
      refine wp_pos rfl (wp_seq (Q := fun z : Nat × Int32 × rS => z = (0, nI n, z.2.2) ∧ rfr [42, 88] S z.2.2 ∧ inL z.2.2 42 (idB (m.drop 6)) ∧ inL z.2.2 88 (idB (y.drop 6))) ?_ ?_)
      · refine wp_loop (K := 4) (fun j x => rfr [42, 88] S x ∧ ∀ k, k < j → x.2.2 42 k = S.2.2 13 (5408 + k) ∧ x.2.2 88 k = S.2.2 13 (4 * (32 * n + hpI m) + k)) (fun q j x => OL_arriveProposal_90 N q (nI n) (nI (32 * n + hpI m)) (nI j) x) (fun q j x => L_arriveProposal_90 N q (nI n) (nI (32 * n + hpI m)) (nI j) x) (fun q j x hj hI ih => ?_) 0 N S (by omega) (by omega) ⟨rfr.refl, fun k hk => absurd hk (by omega)⟩
        unfold OL_arriveProposal_90 L_arriveProposal_90 OB_arriveProposal_90 B_arriveProposal_90
        by_cases e : j = 4
        · refine wp_pos (by rw [n_le' (by omega) (by omega)]; omega) ?_
          refine wp_fin trivial ⟨rfl, hI.1, fun i hi => ?_, fun i hi => ?_⟩
          · unfold lby
            rw [(hI.2 (i / 8) (by omega)).1]
            have := dbR.2.2 i hi
            unfold lby at this
            rw [show (32 * 1352 + i) / 8 = 5408 + i / 8 by omega, show (32 * 1352 + i) % 8 = i % 8 by omega] at this
            exact this
          · unfold lby
            rw [(hI.2 (i / 8) (by omega)).2]
            have := hob.1.2.2 i hi
            unfold lby at this
            rw [show (32 * (32 * n + hpI m) + i) / 8 = 4 * (32 * n + hpI m) + i / 8 by omega, show (32 * (32 * n + hpI m) + i) % 8 = i % 8 by omega] at this
            exact this
        simp only [n_mul, n_add]
        rw [n_clamp (by omega), n_clamp (by omega), n_clamp (by omega), L_other _ _ _ (by decide), hI.1.l 13 (by decide)]
        refine wp_neg (by rw [n_le' (by omega) (by omega)]; omega) (wp_and ((n_in (by omega)).2 (by omega)) (wp_and ((n_in (by omega)).2 (by omega)) (wp_and ((n_in (by omega)).2 (by omega)) (wp_and ((n_in (by omega)).2 (by omega)) ?_))))
        unfold O_arriveProposal_132 F_arriveProposal_132
        rw [n_add]
        refine ih _ ⟨(hI.1.trans (rfr.oneL (by decide))).trans (rfr.oneL (by decide)), fun k hk => ?_⟩ (by omega)
        rw [L_other _ _ _ (by decide), L_same, L_same, L_other _ _ _ (by decide)]
        by_cases c2 : k = j
        · rw [c2, updL_same, updL_same]
          exact ⟨rfl, rfl⟩
        · rw [updL_other _ _ c2, updL_other _ _ c2]
          exact hI.2 k (by omega)
      rintro z ⟨z0, z1, z2, z3⟩
      rw [z0]
      generalize z.2.2 = S1 at z1 z2 z3 ⊢
      show wp (O_arriveProposal_138 N (nI n) S1) (F_arriveProposal_138 N (nI n) S1) _
      unfold O_arriveProposal_138 F_arriveProposal_138
      have f3 : rfr [41, 42, 88] S (rsI S1 41 (nI 1)) := (z1.mono (by decide)).trans (rfr.oneI (by decide))
      have x41 : (rsI S1 41 (nI 1)).1 41 = nI 1 := I_same _ _ _
      have x42 : inL (rsI S1 41 (nI 1)) 42 (idB (m.drop 6)) := z2
      have x88 : inL (rsI S1 41 (nI 1)) 88 (idB (y.drop 6)) := z3
      generalize rsI S1 41 (nI 1) = S3 at f3 x41 x42 x88 ⊢
      have R3 := h.sf (f3.sf (by decide) (by decide) (by decide) (by decide))
      have ev := evidence_ok (N := N) (m := m) (y := y) hN R3 hn hB y6 (by rw [f3.i 36 (by decide)]; exact m3) (by rw [f3.i 37 (by decide)]; exact d37) (by rw [f3.i 38 (by decide)]; exact d38) (by rw [f3.i 39 (by decide)]; exact d39) (by rw [x41, eM]; rfl) (fun d e => by rw [eM] at e; cases e; exact x42) (fun d e => by rw [eY] at e; cases e; exact x88) (by omega)
      rw [eY] at ev
      refine wp_call ev (fun r => ?_)
      unfold O_arriveProposal_149 F_arriveProposal_149
      exact wp_fin trivial r
theorem edM_v (h : bg m 0 = 2 ∨ bg m 0 = 3) : edM m = if bg m 5 = 1 then some (voD m) else none := by
  unfold edM
  rw [if_neg (by omega)]
theorem arriveVote_ok (hN : 1000 ≤ N) (h : rRp F H T S w) (g : GN F H T G w n) (hn : n < H) (hb : b < 13) (hm : cmS T m S) (h0 : bg m 0 = 2 ∨ bg m 0 = 3) : wp (o_arriveVote N S (nI n) (nI b)) (f_arriveVote N S (nI n) (nI b)) (fun S' => rRp F H T S' (aArV w n T b m)) := by
  have cb := h.1.1.b
  obtain ⟨m1, m2, m3, m4⟩ := hm
  have hB : isB m := m1.2.2.2
  have vo := (wf23 h0).1 m2
  obtain ⟨⟨p1, p2, p3⟩, p4⟩ := vo
  unfold hOK at p2
  obtain ⟨d37, d38, d39, d41, d42⟩ := m4.2.2.1 h0
  have l6 : 6 ≤ m.length := by omega
  have f5 : bg m 5 ≤ 1 := by omega
  obtain ⟨c, hc⟩ : ∃ c, c = bg m 0 - 2 := ⟨_, rfl⟩
  have c1 : c ≤ 1 := by omega
  obtain ⟨P, hP⟩ : ∃ P, P = tw m 2 % 2 := ⟨_, rfl⟩
  have q0 : vpI m < 832 := by unfold vpI vq; omega
  have l0 : vix n (vpI m) < 10816 := by unfold vix; split <;> omega
  have key : wp (O_arriveVote_13 N (nI n) (nI b) (nI c) S) (F_arriveVote_13 N (nI n) (nI b) (nI c) S) (fun S' => rRp F H T S' (aArV w n T b m)) := by
    obtain ⟨v1, v2⟩ := voteAt_ok (N := N) (S := S) (n := n) (c := c) (h := tw m 2) (r := bg m 4) (s := bg m 1) c1 (by omega)
    have ev : 13 * (32 * n + 16 * (tw m 2 % 2) + bg m 4) + bg m 1 + 5408 * c = vix n (vpI m) := by
      unfold vix vpI vq
      split <;> omega
    rw [ev] at v2
    have hv := h.v n (vpI m) hn q0
    unfold O_arriveVote_13 F_arriveVote_13 aArV
    rw [d37, d38, d39, d41, v2, n_clamp (by omega)]
    cases hy : wY w n 5 (vpI m) with
    | none =>
      rw [hy] at hv
      have hv : S.2.1 60 (vix n (vpI m)) = nI 0 := hv
      rw [hv]
      refine wp_and v1 (wp_and ((n_in (by omega)).2 (by omega)) (wp_pos rfl (wp_and ((n_in (by omega)).2 (by omega)) (wp_and ((n_in (by omega)).2 (by omega)) (wp_and ((n_in (by omega)).2 (by omega)) (wp_and ((n_in (by omega)).2 (by omega)) (wp_call (setVote_ok (q := vpI m) (m := m) h hn q0 f5 d42.id) (fun z => ?_))))))))
      obtain ⟨z1, z2⟩ := z
      have z1 : rfr [60, 61, 62, 63, 64] S (f_setVote N S (nI (vix n (vpI m))) (nI (bg m 5)) (S.2.2 42 0) (S.2.2 42 1) (S.2.2 42 2) (S.2.2 42 3)) := z1
      have z2 : rRp F H T (f_setVote N S (nI (vix n (vpI m))) (nI (bg m 5)) (S.2.2 42 0) (S.2.2 42 1) (S.2.2 42 2) (S.2.2 42 3)) (sBy w n 5 (vpI m) (some m)) := z2
      show wp (O_arriveVote_72 N (nI n) (nI b) (f_setVote N S (nI (vix n (vpI m))) (nI (bg m 5)) (S.2.2 42 0) (S.2.2 42 1) (S.2.2 42 2) (S.2.2 42 3))) (F_arriveVote_72 N (nI n) (nI b) (f_setVote N S (nI (vix n (vpI m))) (nI (bg m 5)) (S.2.2 42 0) (S.2.2 42 1) (S.2.2 42 2) (S.2.2 42 3))) _
      generalize f_setVote N S (nI (vix n (vpI m))) (nI (bg m 5)) (S.2.2 42 0) (S.2.2 42 1) (S.2.2 42 2) (S.2.2 42 3) = S1 at z1 z2 ⊢
      unfold O_arriveVote_72 F_arriveVote_72
      rw [z1.i 37 (by decide), d37]
      have m1' := m1.fr z1 (by decide) (by decide)
      refine wp_call (sendOn_ok (b := b) (c := bg m 1) (tk := wT w) (T := T) hN z2.co.2.1 (by omega) m1' (by omega) z2.sk z2.co.2.2.2.2.2.1 (by omega) hb (Or.inl ⟨rfl, (by omega)⟩) (by have := h.co.2.2.2.2.2.2.1; omega)) (fun r => ?_)
      exact wp_fin trivial (z2.sky r.1 r.2)
    | some y =>
      rw [hy] at hv
      obtain ⟨w1, w2, w3⟩ := hv
      obtain ⟨y1, y2, y3, y4, y5, y6, y7, y8, y9⟩ := g.v c P (bg m 4) (bg m 1) y c1 (by omega) (by omega) (by omega) (by rw [hP, hc]; exact hy)
      have ky : bg y 0 = 2 ∨ bg y 0 = 3 := by omega
      have eM := edM_v h0
      have eY := edM_v ky
      rw [w1]
      refine wp_and v1 (wp_and ((n_in (by omega)).2 (by omega)) (wp_neg (by rw [n_eq0 (by omega)]; omega) (wp_and ((n_in (by omega)).2 (by omega)) (wp_and ((n_in (by omega)).2 (by omega)) (wp_and ((n_in (by omega)).2 (by omega)) ?_)))))
      unfold O_arriveVote_106 F_arriveVote_106
      refine wp_and ((n_in (by omega)).2 (by omega)) ?_
      unfold O_arriveVote_107 F_arriveVote_107
      have cl : (nI (vix n (vpI m))).toNatClampNeg = vix n (vpI m) := n_clamp (by omega)
      have l62 : ∀ (S' : rS) (i : Nat) (x : Int64), (rsL S' 88 i x).2.2 62 = S'.2.2 62 := fun S' i x => L_other _ _ _ (by decide)
      have l63 : ∀ (S' : rS) (i : Nat) (x : Int64), (rsL S' 88 i x).2.2 63 = S'.2.2 63 := fun S' i x => L_other _ _ _ (by decide)
      have l64 : ∀ (S' : rS) (i : Nat) (x : Int64), (rsL S' 88 i x).2.2 64 = S'.2.2 64 := fun S' i x => L_other _ _ _ (by decide)
      simp only [cl, l62, l63, l64]
      refine wp_and ((n_in (by omega)).2 (by omega)) (wp_and ((n_in (by omega)).2 (by omega)) (wp_and ((n_in (by omega)).2 (by omega)) (wp_and ((n_in (by omega)).2 (by omega)) ?_)))
      show wp (O_arriveVote_131 N (nI n) (nI (vix n (vpI m))) (rsL (rsL (rsL (rsL S 88 0 (S.2.2 61 (vix n (vpI m)))) 88 1 (S.2.2 62 (vix n (vpI m)))) 88 2 (S.2.2 63 (vix n (vpI m)))) 88 3 (S.2.2 64 (vix n (vpI m))))) (F_arriveVote_131 N (nI n) (nI (vix n (vpI m))) (rsL (rsL (rsL (rsL S 88 0 (S.2.2 61 (vix n (vpI m)))) 88 1 (S.2.2 62 (vix n (vpI m)))) 88 2 (S.2.2 63 (vix n (vpI m)))) 88 3 (S.2.2 64 (vix n (vpI m))))) _
      have f4 : rfr [88] S (rsL (rsL (rsL (rsL S 88 0 (S.2.2 61 (vix n (vpI m)))) 88 1 (S.2.2 62 (vix n (vpI m)))) 88 2 (S.2.2 63 (vix n (vpI m)))) 88 3 (S.2.2 64 (vix n (vpI m)))) := (((rfr.oneL (by decide)).trans (rfr.oneL (by decide))).trans (rfr.oneL (by decide))).trans (rfr.oneL (by decide))
      have x88 : inL (rsL (rsL (rsL (rsL S 88 0 (S.2.2 61 (vix n (vpI m)))) 88 1 (S.2.2 62 (vix n (vpI m)))) 88 2 (S.2.2 63 (vix n (vpI m)))) 88 3 (S.2.2 64 (vix n (vpI m)))) 88 (voD y) := fun i hi => by
        unfold lby
        have := w3 (i % 8) (by omega)
        rw [L_same, L_same, L_same, L_same]
        rcases (show i / 8 = 0 ∨ i / 8 = 1 ∨ i / 8 = 2 ∨ i / 8 = 3 by omega) with e | e | e | e <;> rw [e]
        · rw [updL_other _ _ (by decide), updL_other _ _ (by decide), updL_other _ _ (by decide), updL_same, this.1]
          congr 2
          omega
        · rw [updL_other _ _ (by decide), updL_other _ _ (by decide), updL_same, this.2.1]
          congr 2
          omega
        · rw [updL_other _ _ (by decide), updL_same, this.2.2.1]
          congr 2
          omega
        · rw [updL_same, this.2.2.2]
          congr 2
          omega
      generalize rsL (rsL (rsL (rsL S 88 0 (S.2.2 61 (vix n (vpI m)))) 88 1 (S.2.2 62 (vix n (vpI m)))) 88 2 (S.2.2 63 (vix n (vpI m)))) 88 3 (S.2.2 64 (vix n (vpI m))) = S4 at f4 x88 ⊢
      have R4 := h.sf (f4.sf (by decide) (by decide) (by decide) (by decide))
      have x60 : S4.2.1 60 (vix n (vpI m)) = nI (1 + bg y 5) := by rw [f4.a 60 (by decide)]; exact w1
      have x41 : S4.1 41 = nI (bg m 5) := by rw [f4.i 41 (by decide)]; exact d41
      have x42 : inL S4 42 (voD m) := d42.fr f4 (by decide)
      have e41 : nI (bg m 5) = nI (edN (edM m)) := by
        rw [eM]
        rcases (show bg m 5 = 0 ∨ bg m 5 = 1 by omega) with e | e <;> rw [e] <;> rfl
      -- the end: like, or accused
      have fin : ∀ l : Nat, (l = 1 ∧ edM m = edM y) ∨ (l = 0 ∧ edM m ≠ edM y) → wp (O_arriveVote_205 N (nI n) (nI (vix n (vpI m))) (nI l) S4) (F_arriveVote_205 N (nI n) (nI (vix n (vpI m))) (nI l) S4) (fun S' => rRp F H T S' (if edM m = edM y then w else aEv w n T m y)) := fun l hl => by
        unfold O_arriveVote_205 F_arriveVote_205
        rcases hl with ⟨a1, a2⟩ | ⟨a1, a2⟩
        · rw [a1, if_pos a2]
          refine wp_neg (show ¬ nI 1 = 0 by decide) ?_
          unfold O_arriveVote_230 F_arriveVote_230
          exact wp_fin trivial R4
        · rw [a1, if_neg a2]
          have ev := evidence_ok (N := N) (m := m) (y := y) hN R4 hn hB y8 (by rw [f4.i 36 (by decide)]; exact m3) (by rw [f4.i 37 (by decide)]; exact d37) (by rw [f4.i 38 (by decide)]; exact d38) (by rw [f4.i 39 (by decide)]; exact d39) (by rw [x41, e41]) (fun d e => by rw [eM] at e; split at e; cases e; exact x42; cases e) (fun d e => by rw [eY] at e; split at e; cases e; exact x88; cases e) (by omega)
          have ed : ∀ v : Nat, v = edN (edM y) → wp (O_arriveVote_227 N (nI n) (nI v) S4) (F_arriveVote_227 N (nI n) (nI v) S4) (fun S' => rRp F H T S' (aEv w n T m y)) := fun v hv => by
            unfold O_arriveVote_227 F_arriveVote_227
            rw [hv]
            refine wp_call ev (fun r => ?_)
            unfold O_arriveVote_230 F_arriveVote_230
            exact wp_fin trivial r
          rw [n_clamp (by omega), x60]
          refine wp_pos rfl (wp_and ((n_in (by omega)).2 (by omega)) (wp_ite (fun d => ?_) (fun d => ?_))) <;> rw [n_eq' (by omega) (by omega)] at d
          · exact ed 1 (by rw [eY, if_pos (by omega)]; rfl)
          · exact ed 0 (by rw [eY, if_neg (by omega)]; rfl)
      have cmp : ∀ l : Nat, (l = 1 ∧ bg m 5 = bg y 5) ∨ (l = 0 ∧ bg m 5 ≠ bg y 5) → wp (O_arriveVote_158 N (nI n) (nI (vix n (vpI m))) (nI l) S4) (F_arriveVote_158 N (nI n) (nI (vix n (vpI m))) (nI l) S4) (fun S' => rRp F H T S' (if edM m = edM y then w else aEv w n T m y)) := fun l hl => by
        unfold O_arriveVote_158 F_arriveVote_158
        refine wp_seq (Q := fun z : Nat × Int32 × Int32 × Int32 × rS => ∃ l' : Nat, z = (0, nI n, nI (vix n (vpI m)), nI l', S4) ∧ ((l' = 1 ∧ bg m 5 = bg y 5 ∧ ∀ i, i < 32 → bg (voD m) i = bg (voD y) i) ∨ (l' = 0 ∧ ¬ (bg m 5 = bg y 5 ∧ ∀ i, i < 32 → bg (voD m) i = bg (voD y) i)))) ?_ ?_
        · refine wp_loop (K := 4) (fun j (x : Nat) => (x = 1 ∧ bg m 5 = bg y 5 ∧ ∀ i, i < 8 * j → bg (voD m) i = bg (voD y) i) ∨ (x = 0 ∧ ¬ (bg m 5 = bg y 5 ∧ ∀ i, i < 32 → bg (voD m) i = bg (voD y) i))) (fun q j x => OL_arriveVote_163 N q (nI n) (nI (vix n (vpI m))) (nI x) (nI j) S4) (fun q j x => L_arriveVote_163 N q (nI n) (nI (vix n (vpI m))) (nI x) (nI j) S4) (fun q j x hj hI ih => ?_) 0 N l (by omega) (by omega) (by
            rcases hl with ⟨a1, a2⟩ | ⟨a1, a2⟩
            · exact Or.inl ⟨a1, a2, fun i hi => absurd hi (by omega)⟩
            · exact Or.inr ⟨a1, fun z => a2 z.1⟩)
          unfold OL_arriveVote_163 L_arriveVote_163 OB_arriveVote_163 B_arriveVote_163
          by_cases e : j = 4
          · refine wp_pos (by rw [n_le' (by omega) (by omega)]; omega) ?_
            refine wp_fin trivial ⟨x, rfl, ?_⟩
            rw [e] at hI
            exact hI
          refine wp_neg (by rw [n_le' (by omega) (by omega)]; omega) ?_
          rcases hI with ⟨x1, x2, x3⟩ | ⟨x1, x2⟩
          · rw [x1, n_clamp (by omega)]
            refine wp_neg (show ¬ nI 1 = 0 by decide) (wp_and ((n_in (by omega)).2 (by omega)) (wp_and ((n_in (by omega)).2 (by omega)) (wp_ite (fun c2 => ?_) (fun c2 => ?_)))) <;> rw [lgc] at c2
            · unfold O_arriveVote_197 F_arriveVote_197
              rw [n_add]
              refine ih 1 (Or.inl ⟨rfl, x2, fun i hi => ?_⟩) (by omega)
              by_cases c3 : i < 8 * j
              · exact x3 i c3
              · have p := x42.b (q := j) (r := i - 8 * j) (by omega) (by omega)
                have q := x88.b (q := j) (r := i - 8 * j) (by omega) (by omega)
                rw [show 8 * j + (i - 8 * j) = i by omega] at p q
                rw [c2, q] at p
                have bm := voD_B hB i
                have by' := voD_B y8 i
                exact ((n_eq' (by omega) (by omega)).1 p).symm
            · unfold O_arriveVote_196 F_arriveVote_196 O_arriveVote_197 F_arriveVote_197
              rw [n_add]
              refine ih 0 (Or.inr ⟨rfl, fun z => c2 ?_⟩) (by omega)
              refine byt_ext (fun r hr => ?_)
              rw [x42.b (by omega) hr, x88.b (by omega) hr, z.2 (8 * j + r) (by omega)]
          · rw [x1]
            refine wp_pos rfl ?_
            unfold O_arriveVote_196 F_arriveVote_196 O_arriveVote_197 F_arriveVote_197
            rw [n_add]
            exact ih 0 (Or.inr ⟨rfl, x2⟩) (by omega)
        rintro z ⟨l', z0, z1⟩
        rw [z0]
        show wp (O_arriveVote_205 N (nI n) (nI (vix n (vpI m))) (nI l') S4) (F_arriveVote_205 N (nI n) (nI (vix n (vpI m))) (nI l') S4) _
        refine fin l' ?_
        rcases z1 with ⟨a1, a2, a3⟩ | ⟨a1, a2⟩
        · refine Or.inl ⟨a1, ?_⟩
          rw [eM, eY, a2, by_ext (by rw [voD_len, voD_len]) (fun i hi => a3 i (by rw [voD_len] at hi; exact hi))]
        · refine Or.inr ⟨a1, fun z => a2 ?_⟩
          rw [eM, eY] at z
          rcases (show bg m 5 = 0 ∨ bg m 5 = 1 by omega) with e | e
          · rcases (show bg y 5 = 0 ∨ bg y 5 = 1 by omega) with e' | e'
            · refine ⟨by omega, fun i hi => ?_⟩
              unfold voD
              rw [mkB_in hi, mkB_in hi, if_neg (by omega), if_neg (by omega)]
            · rw [if_neg (by omega), if_pos e'] at z
              cases z
          · rcases (show bg y 5 = 0 ∨ bg y 5 = 1 by omega) with e' | e'
            · rw [if_pos e, if_neg (by omega)] at z
              cases z
            · rw [if_pos e, if_pos e'] at z
              injection z with z
              exact ⟨by omega, fun i hi => by rw [z]⟩
      unfold O_arriveVote_131 F_arriveVote_131
      rw [n_clamp (by omega), x60, x41]
      refine wp_and ((n_in (by omega)).2 (by omega)) (wp_ite (fun d => ?_) (fun d => ?_)) <;> rw [n_eq' (by omega) (by omega)] at d
      · unfold O_arriveVote_150 F_arriveVote_150
        refine wp_ite (fun d2 => ?_) (fun d2 => ?_) <;> rw [n_eq' (by omega) (by omega)] at d2
        · exact cmp 1 (Or.inl ⟨rfl, (by omega)⟩)
        · exact cmp 0 (Or.inr ⟨rfl, (by omega)⟩)
      · unfold O_arriveVote_150 F_arriveVote_150
        refine wp_ite (fun d2 => ?_) (fun d2 => ?_) <;> rw [n_eq' (by omega) (by omega)] at d2
        · exact cmp 1 (Or.inl ⟨rfl, (by omega)⟩)
        · exact cmp 0 (Or.inr ⟨rfl, (by omega)⟩)
  show wp (O_arriveVote_0 N (nI n) (nI b) S) (F_arriveVote_0 N (nI n) (nI b) S) _
  unfold O_arriveVote_0 F_arriveVote_0
  rw [m3]
  refine wp_ite (fun d => ?_) (fun d => ?_) <;> rw [n_eq' (by omega) (by omega)] at d
  · rw [show c = 1 by omega] at key
    exact key
  · rw [show c = 0 by omega] at key
    exact key
theorem arrive_ok (hN : 2000 ≤ N) (h : rRp F H T S w) (g : GN F H T G w n) (hn : n < H) (hb : b < 13) (hm : cmS T m S) (h0 : 1 ≤ bg m 0 ∧ bg m 0 ≤ 4) : wp (o_arrive N S (nI n) (nI b)) (f_arrive N S (nI n) (nI b)) (fun S' => rRp F H T S' (aArr w n T b m)) := by
  have cb := h.1.1.b
  have ga := g.a.2.1
  have hB : isB m := hm.1.2.2.2
  have e38 : S.1 38 = nI (htM m) := by
    obtain ⟨m1, m2, m3, r1, r2, r3, r4, _⟩ := hm
    unfold htM
    rcases (show bg m 0 = 1 ∨ bg m 0 = 2 ∨ bg m 0 = 3 ∨ bg m 0 = 4 by omega) with e | e | e | e
    · rw [if_pos (Or.inl e)]; exact (r2 e).2.1
    · rw [if_pos (by omega)]; exact (r3 (Or.inl e)).2.1
    · rw [if_pos (by omega)]; exact (r3 (Or.inr e)).2.1
    · rw [if_neg (by omega)]; exact (r4 e).2.1
  have hl : htM m < 65536 := by
    unfold htM
    split
    · exact tw_lt hB 2
    · exact tw_lt hB 1
  have two : ∀ (S1 : rS) (w1 : Wd), rRp F H T S1 w1 → GN F H T G w1 n → wN w1 n = wN w n → cmS T m S1 → S1.1 38 = nI (htM m) → wp (O_arrive_19 N (nI n) (nI b) S1) (F_arrive_19 N (nI n) (nI b) S1) (fun S' => rRp F H T S' (aArr2 w1 n T b m)) := by
    intro S1 w1 R1 g1 e1 c1 s38
    have ga := g1.a.2.1
    have e44 : S1.2.1 44 n = nI (wN w1 n 1).toNat := R1.hN hn (k := 1) (by decide) (by decide) (by omega)
    unfold O_arrive_19 F_arrive_19 aArr2
    rw [c1.2.2.1, s38, n_clamp (by omega), e44]
    refine wp_ite (fun d => ?_) (fun d => ?_) <;> rw [n_eq' (by omega) (by omega)] at d
    · rw [if_pos d]
      obtain ⟨r1, r2, r3⟩ := c1.2.2.2.2.2.2.1 d
      have bw := (wf4 d).1 c1.2.1
      have bl := bw.len
      refine wp_and ((n_in (by omega)).2 (by omega)) (wp_ite (fun d2 => ?_) (fun d2 => ?_)) <;> rw [n_eq' (by omega) (by omega)] at d2
      rotate_left
      · rw [if_neg (fun z => d2 (by omega))]
        unfold O_arrive_115 F_arrive_115
        exact wp_fin trivial R1
      have hd := R1.d n b hn hb
      simp only [n_mul, n_add]
      obtain ⟨t1, t2⟩ := isThere_ok (N := N) (p := 416 + 13 * n + b) (by omega) hd
      rw [t2]
      refine wp_and t1 ?_
      cases hy : wY w1 n 6 b with
      | some y =>
        rw [if_neg (show ¬ ((htM m : Int) = wN w1 n 1 ∧ some y = none) from (fun z => by cases z.2))]
        refine wp_neg (show ¬ nI 1 = 0 by decide) ?_
        unfold O_arrive_115 F_arrive_115
        exact wp_fin trivial R1
      | none =>
        rw [if_pos (show (htM m : Int) = wN w1 n 1 ∧ (none : Option (List Nat)) = none from ⟨(by omega), rfl⟩)]
        refine wp_pos rfl (wp_call (copyBlock_ok (p := 1352) (q := 416 + 13 * n + b) (by omega) (by omega) (by omega) r3 bl.2 (by omega)) (fun z => ?_))
        obtain ⟨g1, g2, g3⟩ := z
        unfold O_arrive_74 F_arrive_74 O_arrive_115 F_arrive_115
        refine wp_fin trivial (R1.put (f := 6) (i := b) (p := 416 + 13 * n + b) hn (by unfold plc; omega) (fun z => absurd z (by decide)) (g1.mono (by decide)) g2 (fun x _ => by rw [g1.a 59 (by decide)]) ?_ (fun z => absurd z (by decide)))
        exact ⟨g3, bl.1, bl.2, isB_drop hB 1⟩
    · rw [if_neg d, n_add]
      refine wp_and ((n_in (by omega)).2 (by omega)) (wp_ite (fun d2 => ?_) (fun d2 => ?_)) <;> rw [n_lt' (by omega) (by omega)] at d2
      · rw [if_neg (show ¬ (htM m : Int) ≤ wN w1 n 1 + 1 by omega)]
        unfold O_arrive_115 F_arrive_115
        exact wp_fin trivial R1
      rw [if_pos (show (htM m : Int) ≤ wN w1 n 1 + 1 by omega)]
      refine wp_ite (fun d3 => ?_) (fun d3 => ?_) <;> rw [n_eq' (by omega) (by omega)] at d3
      · rw [if_pos d3]
        refine wp_call (arriveProposal_ok (by omega) R1 g1 hn hb c1 d3) (fun z => ?_)
        unfold O_arrive_106 F_arrive_106 O_arrive_115 F_arrive_115
        exact wp_fin trivial z
      · rw [if_neg d3]
        refine wp_call (arriveVote_ok (by omega) R1 g1 hn hb c1 (by omega)) (fun z => ?_)
        unfold O_arrive_115 F_arrive_115
        exact wp_fin trivial z
  have e44 : S.2.1 44 n = nI (wN w n 1).toNat := h.hN hn (k := 1) (by decide) (by decide) (by omega)
  show wp (O_arrive_0 N (nI n) (nI b) S) (F_arrive_0 N (nI n) (nI b) S) _
  unfold O_arrive_0 F_arrive_0 aArr
  rw [n_clamp (by omega), e44, e38]
  refine wp_and ((n_in (by omega)).2 (by omega)) (wp_ite (fun d => ?_) (fun d => ?_)) <;> rw [n_le' (by omega) (by omega)] at d
  · rw [if_neg (by omega)]
    exact two S w h g rfl hm e38
  · rw [if_pos (by omega)]
    refine wp_call (ask_ok (t := b) (m := m) hN h hn hb hm.1 (by omega)) (fun z => ?_)
    obtain ⟨z1, z2, z3⟩ := z
    refine two _ _ z3 g rfl ?_ (by rw [z1.i 38 (by decide)]; exact e38)
    obtain ⟨a, c, d, e1, e2, e3, e4, e5, e6, e7⟩ := hm
    have i : ∀ k ∈ [36, 37, 38, 39, 40, 41], (f_ask N S (nI n) (nI b)).1 k = S.1 k := fun k hk => z1.i k (by
      intro q
      revert q hk
      revert k
      decide)
    refine ⟨z2, c, by rw [i 36 (by decide)]; exact d, ?_⟩
    unfold rdO
    rw [i 37 (by decide), i 38 (by decide), i 39 (by decide), i 40 (by decide), i 41 (by decide)]
    refine ⟨e1, fun z => ?_, fun z => ?_, fun z => ?_, e5, e6, e7⟩
    · obtain ⟨a1, a2, a3, a4, a5⟩ := e2 z
      exact ⟨a1, a2, a3, a4, a5.fr z1 (by decide) (by decide) (by decide)⟩
    · obtain ⟨a1, a2, a3, a4, a5⟩ := e3 z
      exact ⟨a1, a2, a3, a4, a5.fr z1 (by decide)⟩
    · obtain ⟨a1, a2, a3⟩ := e4 z
      exact ⟨a1, a2, a3.fr z1 (by decide) (by decide) (by decide)⟩
end
end
