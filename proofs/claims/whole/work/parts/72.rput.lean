section
/-! PLACES OF THE WORLD ARE FILLED: blocks, held proposals, votes, own messages -/
theorem bRe_cg {k : Bk} {ch ch' : Nat → Option (List Nat)} {f : Nat} : ∀ j, (∀ i, i < j → ch' (f + i) = ch (f + i)) → bRe k ch' f j = bRe k ch f j
  | 0, _ => rfl
  | j + 1, h => by
    have ih := bRe_cg (k := k) (f := f) j (fun i hi => h i (by omega))
    unfold bRe
    rw [h j (by omega), ih]
theorem jK.cg7 {T H : Nat} {S : rS} {v : Nat → Nat → Int} {b b' : Nat → Nat → Nat → Option (List Nat)} (h : jK T H S v b) (e2 : ∀ (n i : Nat), n < H → (i : Int) < v n 1 → b' n 7 i = b n 7 i) (e3 : ∀ n, n < H → b' n 9 0 = b n 9 0) : jK T H S v b' := fun n hn => by
  obtain ⟨hh, bh, k0, d, g1, g2, g3, g4, g5, g6, g7, g8, g9, g10, g11, g12, g13, g14, g15⟩ := h n hn
  refine ⟨hh, bh, k0, d, g1, g2, g3, g4, g5, g6, g7, fun x h1 h2 => ?_, fun i hi => ?_, ?_, g11, g12, g13, g14, fun a c => ?_⟩
  · rw [e2 n x hn (by omega)]
    exact g8 x h1 h2
  · rw [bRe_cg (ch := b n 7) (hh - bh) (fun i hi => e2 n (bh + i) hn (by omega))]
    exact g9 i hi
  · rw [e3 n hn]
    exact g10
  · rw [e2 n (hh - 1) hn (by omega)]
    exact g15 a c
/-- the place of a block of the world -/
def plc (f n i p : Nat) : Prop := (f = 0 ∧ i = 0 ∧ p = 1118 + n) ∨ (f = 1 ∧ i = 0 ∧ p = 1131 + n) ∨ (f = 4 ∧ i < 32 ∧ p = 32 * n + i) ∨ (f = 6 ∧ i < 13 ∧ p = 416 + 13 * n + i) ∨ (f = 7 ∧ i < 41 ∧ p = 585 + 41 * n + i)
def plD (f : Nat) : Nat := if f = 4 then 6 else if f = 6 then 1 else 0
theorem map0 (o : Option (List Nat)) : o.map (List.drop 0) = o := by cases o <;> rfl
section
variable {N n F H T : Nat} {S S1 : rS} {w : Wd} {o : Option (List Nat)}
theorem rRp.put {f i p : Nat} (h : rRp F H T S w) (hn : n < H) (hp : plc f n i p) (h7 : f = 7 → wN w n 1 ≤ i) (fr : rfr [12, 13, 14, 59] S S1) (fp : pO1 p S S1) (h59 : ∀ x, (f = 4 → x ≠ p) → S1.2.1 59 x = S.2.1 59 x) (ho : oR S1 p (o.map (List.drop (plD f)))) (hv : f = 4 → ∀ m, o = some m → S1.2.1 59 p = iI (prV m)) : rRp F H T S1 (sBy w n f i o) := by
  have cb := h.1.1.b
  unfold plc at hp
  refine ⟨h.co.fr fr (by decide), h.sk.fr fr (by decide), h.n.fr fr (by decide), h.wh.fr fr (by decide), h.x.fr fr (by decide), fun m hm => ⟨?_, ?_⟩, fun m q hm hq => ⟨?_, ?_⟩, (h.v.fr fr (by decide) (by decide) (by decide) (by decide) (by decide)).cg (fun m q hm hq => B_o _ _ _ _ _ (by omega)), fun m s hm hs => ?_, fun m s hm hs => ?_, fun m j hm hj => ?_, h.p.fr fr (by decide) (by decide), (h.e.fr fr (by decide) (by decide)).cg (fun m q hm hq => B_o _ _ _ _ _ (by omega)), (h.s.fr fr (by decide) (by decide)).cg (fun m q hm hq => B_o _ _ _ _ _ (by omega)), (h.k.fr fr (by decide)).cg7 (fun m q hm hq => ?_) (fun m hm => B_o _ _ _ _ _ (by omega))⟩
  · by_cases c : m = n ∧ f = 0
    · obtain ⟨rfl, rfl⟩ := c
      have e1 : i = 0 := by omega
      have e2 : p = 1118 + m := by omega
      subst e1 e2
      rw [B_s]
      have := ho
      unfold plD at this
      rw [if_neg (by decide), if_neg (by decide), map0] at this
      exact this
    · rw [B_o _ _ _ _ _ (by omega)]
      exact (h.l m hm).1.p fp (by omega)
  · by_cases c : m = n ∧ f = 1
    · obtain ⟨rfl, rfl⟩ := c
      have e1 : i = 0 := by omega
      have e2 : p = 1131 + m := by omega
      subst e1 e2
      rw [B_s]
      have := ho
      unfold plD at this
      rw [if_neg (by decide), if_neg (by decide), map0] at this
      exact this
    · rw [B_o _ _ _ _ _ (by omega)]
      exact (h.l m hm).2.p fp (by omega)
  · by_cases c : m = n ∧ f = 4 ∧ q = i
    · obtain ⟨rfl, rfl, rfl⟩ := c
      have e2 : p = 32 * m + q := by omega
      subst e2
      rw [B_s]
      exact ho
    · rw [B_o _ _ _ _ _ (by omega)]
      exact (h.hd m q hm hq).1.p fp (by omega)
  · by_cases c : m = n ∧ f = 4 ∧ q = i
    · obtain ⟨rfl, rfl, rfl⟩ := c
      have e2 : p = 32 * m + q := by omega
      subst e2
      rw [B_s]
      exact hv rfl
    · rw [B_o _ _ _ _ _ (by omega), h59 _ (by omega)]
      exact (h.hd m q hm hq).2
  · by_cases c : m = n ∧ f = 6 ∧ s = i
    · obtain ⟨rfl, rfl, rfl⟩ := c
      have e2 : p = 416 + 13 * m + s := by omega
      subst e2
      rw [B_s]
      exact ho
    · rw [B_o _ _ _ _ _ (by omega)]
      exact (h.d m s hm hs).p fp (by omega)
  · by_cases c : m = n ∧ f = 7 ∧ s = i
    · obtain ⟨rfl, rfl, rfl⟩ := c
      have e2 : p = 585 + 41 * m + s := by omega
      subst e2
      rw [B_s]
      have := ho
      unfold plD at this
      rw [if_neg (by decide), if_neg (by decide), map0] at this
      exact this
    · rw [B_o _ _ _ _ _ (by omega)]
      exact (h.c m s hm hs).p fp (by omega)
  · obtain ⟨a, y, a1, a2, a3, a4, a5, a6⟩ := h.g m j hm hj
    rw [fr.a 66 (by decide), fr.a 67 (by decide), fr.a 68 (by decide), fr.a 69 (by decide), fr.l 70 (by decide)]
    refine ⟨a, y, by rw [B_o _ _ _ _ _ (by omega)]; exact a1, a2, a3, a4, fun z => ?_, a6⟩
    obtain ⟨b1, b2, b3⟩ := a5 z
    have : oR S (1144 + 16 * m + bg y 4) (some (y.drop 6)) := ⟨b2, b3⟩
    exact ⟨b1, (this.p fp (by omega)).1, b3⟩
  · have hq : (q : Int) < wN w m 1 := hq
    refine B_o _ _ _ _ _ ?_
    by_cases c : m = n ∧ f = 7
    · have := h7 c.2
      rw [← c.1] at this
      omega
    · omega
/-- a vote is kept -/
theorem vix_inj {n m q r : Nat} (hq : q < 832) (hr : r < 832) (hn : n < 13) (hm : m < 13) (e : vix n q = vix m r) : n = m ∧ q = r := by
  unfold vix at e
  split at e <;> split at e <;> omega
theorem setVote_ok {q : Nat} {m : List Nat} {x1 x2 x3 x4 : Int64} (h : rRp F H T S w) (hn : n < H) (hq : q < 832) (h5 : bg m 5 ≤ 1) (hd : idL x1 x2 x3 x4 (voD m)) : wp (o_setVote N S (nI (vix n q)) (nI (bg m 5)) x1 x2 x3 x4) (f_setVote N S (nI (vix n q)) (nI (bg m 5)) x1 x2 x3 x4) (fun S' => rfr [60, 61, 62, 63, 64] S S' ∧ rRp F H T S' (sBy w n 5 q (some m))) := by
  have cb := h.1.1.b
  have vlt : vix n q < 10816 := by unfold vix; split <;> omega
  show wp (O_setVote_0 N (nI (vix n q)) (nI (bg m 5)) x1 x2 x3 x4 S) (F_setVote_0 N (nI (vix n q)) (nI (bg m 5)) x1 x2 x3 x4 S) _
  have key : ∀ y : Nat, y = 1 + bg m 5 → wp (O_setVote_14 N (nI (vix n q)) x1 x2 x3 x4 (nI (vix n q)) (nI y) S) (F_setVote_14 N (nI (vix n q)) x1 x2 x3 x4 (nI (vix n q)) (nI y) S) (fun S' => rfr [60, 61, 62, 63, 64] S S' ∧ rRp F H T S' (sBy w n 5 q (some m))) := by
    intro y hy
    unfold O_setVote_14 F_setVote_14 O_setVote_22 F_setVote_22 O_setVote_38 F_setVote_38
    rw [n_clamp (by omega)]
    refine wp_fin ⟨((n_in (by omega)).2 (by omega)), ((n_in (by omega)).2 (by omega)), ((n_in (by omega)).2 (by omega)), ((n_in (by omega)).2 (by omega)), ((n_in (by omega)).2 (by omega)), trivial⟩ ?_
    have fr : rfr [60, 61, 62, 63, 64] S (rsL (rsL (rsL (rsL (rsA S 60 (vix n q) (nI y)) 61 (vix n q) x1) 62 (vix n q) x2) 63 (vix n q) x3) 64 (vix n q) x4) := ((((rfr.one (by decide)).trans (rfr.oneL (by decide))).trans (rfr.oneL (by decide))).trans (rfr.oneL (by decide))).trans (rfr.oneL (by decide))
    refine ⟨fr, h.co.fr fr (by decide), h.sk.fr fr (by decide), h.n.fr fr (by decide), h.wh.fr fr (by decide), h.x.fr fr (by decide), (h.l.fr fr (by decide) (by decide) (by decide)).cg (fun m hm => ⟨B_o _ _ _ _ _ (by omega), B_o _ _ _ _ _ (by omega)⟩), (h.hd.fr fr (by decide) (by decide) (by decide) (by decide)).cg (fun m q hm hq => B_o _ _ _ _ _ (by omega)), fun k r hk hr => ?_, (h.d.fr fr (by decide) (by decide) (by decide)).cg (fun m q hm hq => B_o _ _ _ _ _ (by omega)), (h.c.fr fr (by decide) (by decide) (by decide)).cg (fun m q hm hq => B_o _ _ _ _ _ (by omega)), (h.g.fr fr (by decide) (by decide) (by decide) (by decide)).cg (fun _ _ => rfl) (fun m q hm => B_o _ _ _ _ _ (by omega)), h.p.fr fr (by decide) (by decide), (h.e.fr fr (by decide) (by decide)).cg (fun m q hm hq => B_o _ _ _ _ _ (by omega)), (h.s.fr fr (by decide) (by decide)).cg (fun m q hm hq => B_o _ _ _ _ _ (by omega)), (h.k.fr fr (by decide)).cg (fun _ _ => rfl) (fun _ _ _ _ _ => rfl) (fun m q hm => B_o _ _ _ _ _ (by omega)) (fun m hm => B_o _ _ _ _ _ (by omega))⟩
    have v60 : (rsL (rsL (rsL (rsL (rsA S 60 (vix n q) (nI y)) 61 (vix n q) x1) 62 (vix n q) x2) 63 (vix n q) x3) 64 (vix n q) x4).2.1 60 = upd (S.2.1 60) (vix n q) (nI y) := A_same S 60 (vix n q) (nI y)
    have v61 : (rsL (rsL (rsL (rsL (rsA S 60 (vix n q) (nI y)) 61 (vix n q) x1) 62 (vix n q) x2) 63 (vix n q) x3) 64 (vix n q) x4).2.2 61 = vp_updL (S.2.2 61) (vix n q) x1 := by rw [L_other _ _ _ (by decide), L_other _ _ _ (by decide), L_other _ _ _ (by decide), L_same]; rfl
    have v62 : (rsL (rsL (rsL (rsL (rsA S 60 (vix n q) (nI y)) 61 (vix n q) x1) 62 (vix n q) x2) 63 (vix n q) x3) 64 (vix n q) x4).2.2 62 = vp_updL (S.2.2 62) (vix n q) x2 := by rw [L_other _ _ _ (by decide), L_other _ _ _ (by decide), L_same, L_other _ _ _ (by decide)]; rfl
    have v63 : (rsL (rsL (rsL (rsL (rsA S 60 (vix n q) (nI y)) 61 (vix n q) x1) 62 (vix n q) x2) 63 (vix n q) x3) 64 (vix n q) x4).2.2 63 = vp_updL (S.2.2 63) (vix n q) x3 := by rw [L_other _ _ _ (by decide), L_same, L_other _ _ _ (by decide), L_other _ _ _ (by decide)]; rfl
    have v64 : (rsL (rsL (rsL (rsL (rsA S 60 (vix n q) (nI y)) 61 (vix n q) x1) 62 (vix n q) x2) 63 (vix n q) x3) 64 (vix n q) x4).2.2 64 = vp_updL (S.2.2 64) (vix n q) x4 := by rw [L_same, L_other _ _ _ (by decide), L_other _ _ _ (by decide), L_other _ _ _ (by decide)]; rfl
    have old := h.v k r hk hr
    unfold vR at old ⊢
    rw [v60, v61, v62, v63, v64]
    by_cases c : k = n ∧ r = q
    · rw [c.1, c.2, B_s, upd_same, updL_same, updL_same, updL_same, updL_same, hy]
      exact ⟨rfl, h5, hd⟩
    · have ne : vix k r ≠ vix n q := fun e => c (vix_inj hr hq (by omega) (by omega) e)
      rw [B_o _ _ _ _ _ (by omega), upd_other _ _ ne, updL_other _ _ ne, updL_other _ _ ne, updL_other _ _ ne, updL_other _ _ ne]
      exact old
  unfold O_setVote_0 F_setVote_0
  refine wp_ite (fun c => ?_) (fun c => ?_) <;> rw [n_eq0 (by omega)] at c
  · exact key 1 (by omega)
  · exact key 2 (by omega)
end
end
