section
/-! ALL THAT HOLDS OF THE WORLD BETWEEN CALLS, and every call keeps it -/
def AJ (F H T : Nat) (w : Wd) : Prop := AI F H T w ∧ chW H T w
section
variable {N n F H T k : Nat} {S : rS} {w : Wd}
theorem AI.c4 (h : AI F H T w) : H ≤ T := by
  obtain ⟨⟨⟨G, g⟩, _⟩, _⟩ := h
  exact g.1.2.2.2.1
theorem chW.land (a : AI F H T w) (c : chW H T w) (hk : k < (wK w).1.length) (hB : isB (fg (wK w).1 k).2.2.2) : chW H T (aLand w H T F k) := by
  obtain ⟨g, s, t⟩ := a
  obtain ⟨G, g1⟩ := g.1
  have sx := s (fg (wK w).1 k) (fg_in hk)
  unfold aLand
  split
  · rename_i d
    have gx : ∀ t tk, skX H T G ((fg (wK w).1 k).1, t, tk, (fg (wK w).1 k).2.2.2) := fun t tk => g1.2.2 (fg (wK w).1 k) (fg_in hk)
    have c0 : chW H T (sK w (skE (wK w) k)) := c
    exact c0.wfr wfr.come (chf.come sx.1 (fun z => GK.got (g1.land k) g.2 d.1 sx.1 gx z hB) d.1)
  · exact c
theorem chW.tk1 {t : Nat} {x : Nat × Wd} (c : chW H T x.2) (g : GK F H T x.2) (hn : n < H) (ht : t < 3) : chW H T (aTk1 T F n x t).2 := by
  unfold aTk1
  split
  · have g2 := g.off (k := 9 + t) hn (by omega)
    have c0 : chW H T (sN x.2 n (9 + t) (-1)) := c
    exact (c0.wfr wfr.end_ chf.end_).wfr wfr.rules (chf.rules (g2.end_ hn).1 hn)
  · exact c
theorem chW.tick (a : AI F H T w) (c : chW H T w) : chW H T (aTick w H T F).2 := by
  have three : ∀ n x, n < H → GK F H T x.2 → chW H T x.2 → ∀ j, j ≤ 3 → GK F H T (aTk3 T F n x j).2 ∧ chW H T (aTk3 T F n x j).2 := by
    intro n x hn gx cx j
    induction j with
    | zero => intro _; exact ⟨gx, cx⟩
    | succ j ih =>
      intro hj
      obtain ⟨a1, a2⟩ := ih (by omega)
      exact ⟨(a1.tk1 (t := j) hn (by omega)).1, a2.tk1 a1 hn (by omega)⟩
  have all : ∀ j, j ≤ H → GK F H T (aTkN T F (0, sT w (wT w + 1)) j).2 ∧ chW H T (aTkN T F (0, sT w (wT w + 1)) j).2 := by
    intro j
    induction j with
    | zero => intro _; exact ⟨a.1, c⟩
    | succ j ih =>
      intro hj
      obtain ⟨a1, a2⟩ := ih (by omega)
      exact three j _ (by omega) a1 a2 3 (Nat.le_refl _)
  exact (all H (Nat.le_refl _)).2
theorem AJ.land (h : AJ F H T w) (hk : k < (wK w).1.length) (hB : isB (fg (wK w).1 k).2.2.2) (h9 : wT w < 900000) : AJ F H T (aLand w H T F k) := ⟨h.1.land hk hB h9, h.2.land h.1 hk hB⟩
theorem AJ.tick (h : AJ F H T w) (h9 : wT w + 1 < 900000) : AJ F H T (aTick w H T F).2 ∧ wT (aTick w H T F).2 = wT w + 1 := ⟨⟨(h.1.tick h9).1, h.2.tick h.1⟩, (h.1.tick h9).2⟩
theorem AJ.calm {x y : Int32} (hN : 6000 ≤ N) (h : rRp F H T S w) (a : AJ F H T w) (h9 : wT w + 64 < 900000) : wp (o_calm N S x y) (f_calm N S x y) (fun z => (∃ n d, 1 ≤ n ∧ n ≤ 64 ∧ d ≤ 9 ∧ x = nI n ∧ y = nI d ∧ rRp F H T z.2 (aCl H T F d w n).2 ∧ z.1 = nI (aCl H T F d w n).1 ∧ AJ F H T (aCl H T F d w n).2 ∧ wT (aCl H T F d w n).2 ≤ wT w + 64) ∨ ((¬ ∃ n d, 1 ≤ n ∧ n ≤ 64 ∧ d ≤ 9 ∧ x = nI n ∧ y = nI d) ∧ rRp F H T z.2 w ∧ z.1 = -1)) :=
  calm_ok (P := chW H T) hN h a.1 (fun w a c hk hB _ => c.land a hk hB) (fun w a c _ => c.tick a) a.2 h9
theorem AJ.tape {l : List Nat} (h : AJ F H T w) : AJ F H T (sL w l) := h
theorem AJ.pass {a b k : Nat} (h : AJ F H T w) (ha : H ≤ a) (ha2 : a < T) (hb : b < T) (hk : k < (wK w).1.length) : AJ F H T (aPost w a b (fg (wK w).1 k).2.2.2) := ⟨h.1.pass ha ha2 hb hk, h.2⟩
theorem AJ.lie {a b n : Nat} (h : AJ F H T w) (ha : H ≤ a) (ha2 : a < T) (hb : b < T) (no : ¬ (wf T ((wL w).take n) ∧ tlH H ((wL w).take n))) : AJ F H T (aLie w a b n) := ⟨h.1.lie ha ha2 hb no, h.2⟩
theorem AJ.copy (h : AJ F H T w) (hk : k < (wK w).1.length) : AJ F H T (aCopy w k) := ⟨h.1.copy hk, h.2⟩
theorem AJ.cut (h : AJ F H T w) (hn : n < H) (hk : k ≤ 1000) : AJ F H T (sN w n 12 (k : Int)) := ⟨h.1.cut hn hk, h.2⟩
theorem AJ.fall (h : AJ F H T w) (hn : n < H) : AJ F H T (aFall w n) := ⟨h.1.fall hn, h.2.wfr (n := n) wfr.fall (chf.same (fun i => aFall_Y _ _ (Or.inr (by omega))))⟩
theorem AJ.rules (h : AJ F H T w) (hn : n < H) (h9 : wT w < 900000) : AJ F H T (aRules w n T F) := ⟨h.1.rules hn h9, h.2.wfr wfr.rules (chf.rules h.1.1 hn)⟩
theorem AJ.restart (h : AJ F H T w) (hn : n < H) (u : wN w n 0 = 0) (h9 : wT w < 900000) : AJ F H T (aRules (aWk w n T) n T F) := by
  have fr : wfr n (aWk0 w n) (aWk w n T) := (wfr.hl.trans wfr.wk1).trans wfr.all
  have e : wT (aWk w n T) = wT w := fr.2.1
  exact AJ.rules ⟨h.1.wake hn u h9, h.2.step (n := n) (fun m hm => (fr.1 m hm).2.1) chf.wake⟩ hn (by rw [e]; exact h9)
theorem AJ.submit {p : List Nat} (h : AJ F H T w) (hn : n < H) (hp : p.length = 7 ∧ isB p ∧ payOK p 0) : AJ F H T (aSub w n T p) := by
  refine ⟨h.1.submit hn hp, ?_⟩
  have c1 : chW H T (aPool w n p).2 := h.2.wfr wfr.pool chf.pool
  unfold aSub
  split
  · exact c1
  · exact c1
theorem AJ_ini (c : cst F H T) : AJ F H T (aIni T F H) := by
  refine ⟨(AI_ini c H (Nat.le_refl _)).1, ?_⟩
  have all : ∀ j, j ≤ H → chW H T (aIni T F j) := fun j => by
    induction j with
    | zero => intro _ n h b _ e; rw [show aIni T F 0 = w00 from rfl, w00_y (by decide)] at e; cases e
    | succ j ih =>
      intro hj
      have a := (AI_ini c j (by omega)).2 (by omega)
      exact ((ih (by omega)).wfr wfr.begin chf.begin).wfr wfr.rules (chf.rules a.1 (by omega))
  exact all H (Nat.le_refl _)
end
end
