section
/-! WHAT HOLDS OF THE WORLD BETWEEN ALL STEPS. G p m: the honest node p has signed m -/
/-- how many below a bound -/
noncomputable def cnt (A : Nat → Prop) : Nat → Nat
  | 0 => 0
  | k + 1 => cnt A k + cif (A k) 1 0
theorem cnt_le (A : Nat → Prop) : ∀ k, cnt A k ≤ k
  | 0 => Nat.le_refl _
  | k + 1 => by
    have := cnt_le A k
    unfold cnt
    by_cases c : A k
    · rw [cif_pos c]; omega
    · rw [cif_neg c]; omega
theorem cnt_mono {A B : Nat → Prop} : ∀ k, (∀ i, i < k → A i → B i) → cnt A k ≤ cnt B k
  | 0, _ => Nat.le_refl _
  | k + 1, h => by
    have := cnt_mono k (fun i hi => h i (by omega))
    unfold cnt
    by_cases c : A k
    · rw [cif_pos c, cif_pos (h k (by omega) c)]; omega
    · rw [cif_neg c]; omega
theorem cnt_cg {A B : Nat → Prop} (k : Nat) (h : ∀ i, i < k → (A i ↔ B i)) : cnt A k = cnt B k := Nat.le_antisymm (cnt_mono k fun i hi => (h i hi).1) (cnt_mono k fun i hi => (h i hi).2)
theorem cnt_two {A B : Nat → Prop} : ∀ k, cnt A k + cnt B k ≤ k + cnt (fun i => A i ∧ B i) k
  | 0 => Nat.le_refl _
  | k + 1 => by
    have := cnt_two (A := A) (B := B) k
    unfold cnt
    by_cases a : A k <;> by_cases b : B k
    · rw [cif_pos a, cif_pos b, cif_pos ⟨a, b⟩]; omega
    · rw [cif_pos a, cif_neg b]; omega
    · rw [cif_neg a, cif_pos b]; omega
    · rw [cif_neg a, cif_neg b]; omega
theorem cnt_ps {A : Nat → Prop} : ∀ H, 0 < cnt A H → ∃ s, s < H ∧ A s
  | 0, h => absurd h (by unfold cnt; omega)
  | k + 1, h => by
    by_cases c : A k
    · exact ⟨k, by omega, c⟩
    · unfold cnt at h
      rw [cif_neg c] at h
      obtain ⟨s, a, b⟩ := cnt_ps k (by omega)
      exact ⟨s, by omega, b⟩
theorem cnt_at {A : Nat → Prop} (H : Nat) : ∀ d, d < cnt A (H + d) → ∃ s, s < H ∧ A s
  | 0, h => cnt_ps H h
  | d + 1, h => by
    refine cnt_at H d ?_
    have h : d + 1 < cnt A (H + d + 1) := h
    unfold cnt at h
    by_cases c : A (H + d)
    · rw [cif_pos c] at h; omega
    · rw [cif_neg c] at h; omega
/-- two quorums have an honest node in common -/
theorem qrm {F H T : Nat} {A B : Nat → Prop} (c : cst F H T) (a : 2 * F + 1 ≤ cnt A T) (b : 2 * F + 1 ≤ cnt B T) : ∃ s, s < H ∧ A s ∧ B s := by
  obtain ⟨c1, c2, c3, c4, c5⟩ := c
  have h := cnt_two (A := A) (B := B) T
  obtain ⟨s, s1, s2⟩ := cnt_at (A := fun i => A i ∧ B i) H (T - H) (by rw [show H + (T - H) = T by omega]; omega)
  exact ⟨s, s1, s2⟩
theorem hon {F H T : Nat} {A : Nat → Prop} (c : cst F H T) (a : F < cnt A T) : ∃ s, s < H ∧ A s := by
  obtain ⟨c1, c2, c3, c4, c5⟩ := c
  exact cnt_at (A := A) H (T - H) (by rw [show H + (T - H) = T by omega]; omega)
abbrev Gh : Type := Nat → List Nat → Prop
/-- a quorum has prevoted for a block -/
def qS (F H T : Nat) (G : Gh) (h r : Int) (d : List Nat) : Prop := ∃ A : Nat → Prop, 2 * F + 1 ≤ cnt A T ∧ ∀ s, s < H → A s → ∃ m, G s m ∧ bg m 0 = 2 ∧ (tw m 2 : Int) = h ∧ (bg m 4 : Int) = r ∧ bg m 5 = 1 ∧ voD m = d
def giU (Gn : List Nat → Prop) : Prop := ∀ m m', Gn m → Gn m' → bg m 0 = bg m' 0 → tw m 2 = tw m' 2 → bg m 4 = bg m' 4 → m = m'
theorem qS.eq {F H T : Nat} {G : Gh} {h r : Int} {d d' : List Nat} (c : cst F H T) (hu : ∀ s, s < H → giU (G s)) (a : qS F H T G h r d) (b : qS F H T G h r d') : d = d' := by
  obtain ⟨A, a1, a2⟩ := a
  obtain ⟨B, b1, b2⟩ := b
  obtain ⟨s, s1, s2, s3⟩ := qrm c a1 b1
  obtain ⟨m, m1, m2, m3, m4, m5, m6⟩ := a2 s s1 s2
  obtain ⟨k, k1, k2, k3, k4, k5, k6⟩ := b2 s s1 s3
  have := hu s s1 m k m1 k1 (by rw [m2, k2]) (by omega) (by omega)
  rw [← m6, ← k6, this]
theorem qS.mono {F H T : Nat} {G G' : Gh} {h r : Int} {d : List Nat} (a : qS F H T G h r d) (hg : ∀ s m, G s m → G' s m) : qS F H T G' h r d := by
  obtain ⟨A, a1, a2⟩ := a
  refine ⟨A, a1, fun s s1 s2 => ?_⟩
  obtain ⟨m, m1, m2⟩ := a2 s s1 s2
  exact ⟨m, hg s m m1, m2⟩
/-! of one node -/
def giA (v : Nat → Int) : Prop := (0 ≤ v 0 ∧ v 0 ≤ 1) ∧ (1 ≤ v 1 ∧ v 1 ≤ 41) ∧ (0 ≤ v 2 ∧ v 2 < 16) ∧ (0 ≤ v 3 ∧ v 3 ≤ 2) ∧ (-1 ≤ v 4 ∧ v 4 ≤ v 2) ∧ (-1 ≤ v 5 ∧ v 5 ≤ v 2) ∧ (0 ≤ v 6 ∧ v 6 ≤ 1) ∧ (0 ≤ v 7 ∧ v 7 ≤ 1) ∧ (0 ≤ v 8 ∧ v 8 ≤ 1) ∧ (0 ≤ v 12 ∧ v 12 ≤ 1000) ∧ 0 ≤ v 15 ∧ (-1 ≤ v 16 ∧ v 16 ≤ 300) ∧ 0 ≤ v 17 ∧ (v 4 = v 2 → v 5 = v 2) ∧ (v 5 = v 2 → v 3 = 2 ∨ v 4 = v 2)
def giK (v : Nat → Int) : Prop := v 15 ≤ 5 * v 2 + 2 + v 3 + (if v 5 = v 2 then 1 else 0) ∧ v 17 ≤ 3 * v 2 + 1 + v 3
def giP (p : List (List Nat)) : Prop := ∀ q, q < p.length → (pg p q).length = 7 ∧ isB (pg p q) ∧ payOK (pg p q) 0
def nxt (h : Int) (m : List Nat) : Prop := (tw m 2 : Int) = h ∨ (tw m 2 : Int) = h + 1
def giV (H T : Nat) (G : Gh) (h : Int) (b : Nat → Option (List Nat)) : Prop := ∀ c p r s m, c ≤ 1 → p ≤ 1 → r < 16 → s < 13 → b (vq c p r s) = some m → s < T ∧ bg m 0 = 2 + c ∧ bg m 1 = s ∧ bg m 4 = r ∧ tw m 2 % 2 = p ∧ nxt h m ∧ voOK T m ∧ isB m ∧ (s < H → G s m)
def giH (H T : Nat) (G : Gh) (h : Int) (b : Nat → Option (List Nat)) : Prop := ∀ p r m, p ≤ 1 → r < 16 → b (16 * p + r) = some m → bg m 0 = 1 ∧ bg m 4 = r ∧ tw m 2 % 2 = p ∧ nxt h m ∧ prOK T m ∧ isB m ∧ bg m 1 = (tw m 2 + r) % T ∧ (bg m 1 < H → G (bg m 1) m)
def giD (T : Nat) (h : Int) (b : Nat → Option (List Nat)) : Prop := ∀ s m, s < 13 → b s = some m → s < T ∧ bg m 0 = 4 ∧ blkWf T (m.drop 1) ∧ isB m ∧ (tw m 1 : Int) = h
def giS (H T : Nat) (b : Nat → Option (List Nat)) : Prop := ∀ s m, s < 13 → b s = some m → s < T ∧ bg m 0 = 7 ∧ snOK m ∧ isB m ∧ (s < H → bkOK (snB m))
def giE (T : Nat) (b : Nat → Option (List Nat)) : Prop := ∀ s m, s < 13 → b s = some m → s < T ∧ bg m 0 = 6 ∧ bg m 1 = s ∧ isB m ∧ evOK T m 1 ∧ m.length = 1 + evSz m 1
def giW (T : Nat) (h : Int) (b : List Nat) : Prop := blkWf T b ∧ bOK b ∧ (tw b 0 : Int) = h
def giL (F H T : Nat) (G : Gh) (h l v : Int) (b0 b1 : Option (List Nat)) : Prop := (l = -1 → b0 = none) ∧ (0 ≤ l → ∃ b, b0 = some b ∧ giW T h b) ∧ (v = -1 → b1 = none) ∧ (0 ≤ v → ∃ b, b1 = some b ∧ giW T h b ∧ qS F H T G h v (idB b))
/-- a message that a node may sign -/
def giM (T n : Nat) (h : Int) (m : List Nat) : Prop := bg m 1 = n ∧ (tw m 2 : Int) = h ∧ bg m 4 < 16 ∧ isB m ∧ ((bg m 0 = 1 ∧ prOK T m ∧ n = (tw m 2 + bg m 4) % T) ∨ ((bg m 0 = 2 ∨ bg m 0 = 3) ∧ voOK T m))
def giO (T n : Nat) (Gn : List Nat → Prop) (h r lg : Int) (b : Nat → Option (List Nat)) : Prop := ∀ i : Nat, (i : Int) < lg → ∃ m, b i = some m ∧ Gn m ∧ giM T n h m ∧ (bg m 4 : Int) ≤ r
def giG (n : Nat) (Gn : List Nat → Prop) (h r s lg : Int) (b : Nat → Option (List Nat)) : Prop := ∀ m, Gn m → bg m 1 = n ∧ (bg m 0 = 1 ∨ bg m 0 = 2 ∨ bg m 0 = 3) ∧ ((tw m 2 : Int) < h ∨ ((tw m 2 : Int) = h ∧ (∃ i : Nat, (i : Int) < lg ∧ b i = some m) ∧ ((bg m 4 : Int) < r ∨ ((bg m 4 : Int) = r ∧ (bg m 0 : Int) ≤ s + 1))))
def giB (k : Bk) (o : Option (List Nat)) : Prop := bkOK k ∧ ∃ d, o = some d ∧ d.length = 32 ∧ isB d
/-- own messages are held while a node is up -/
def giF (u h lg : Int) (b4 b5 b8 : Nat → Option (List Nat)) (n : Nat) : Prop := u = 1 → ∀ (i : Nat) m, (i : Int) < lg → b8 i = some m → (bg m 0 = 1 → b4 (16 * (h.toNat % 2) + bg m 4) = some m) ∧ (bg m 0 ≠ 1 → b5 (vq (if bg m 0 = 3 then 1 else 0) (h.toNat % 2) (bg m 4) n) = some m)
def GN (F H T : Nat) (G : Gh) (w : Wd) (n : Nat) : Prop := giA (wN w n) ∧ giP (wP w n) ∧ giV H T G (wN w n 1) (wY w n 5) ∧ giH H T G (wN w n 1) (wY w n 4) ∧ giD T (wN w n 1) (wY w n 6) ∧ giS H T (wY w n 3) ∧ giE T (wY w n 2) ∧ giL F H T G (wN w n 1) (wN w n 4) (wN w n 5) (wY w n 0 0) (wY w n 1 0) ∧ giO T n (G n) (wN w n 1) (wN w n 2) (wN w n 17) (wY w n 8) ∧ giG n (G n) (wN w n 1) (wN w n 2) (wN w n 3) (wN w n 17) (wY w n 8) ∧ giU (G n) ∧ giB (bkN (wN w) n) (wY w n 9 0) ∧ giF (wN w n 0) (wN w n 1) (wN w n 17) (wY w n 4) (wY w n 5) (wY w n 8) n
def skX (H T : Nat) (G : Gh) (x : Fl) : Prop := wf T x.2.2.2 → ((bg x.2.2.2 0 = 1 ∨ bg x.2.2.2 0 = 2 ∨ bg x.2.2.2 0 = 3) → bg x.2.2.2 1 < H → G (bg x.2.2.2 1) x.2.2.2) ∧ (bg x.2.2.2 0 = 7 → x.1 < H → bkOK (snB x.2.2.2))
def GS (H T : Nat) (G : Gh) (k : Sk) : Prop := ∀ x ∈ k.1, skX H T G x
/-- all but the counts of one node's notes -/
def GI (F H T : Nat) (G : Gh) (w : Wd) : Prop := cst F H T ∧ (∀ n, n < H → GN F H T G w n) ∧ GS H T G (wK w)
section
variable {F H T n : Nat} {G G' : Gh} {w w' : Wd}
theorem GN.a (g : GN F H T G w n) : giA (wN w n) := g.1
theorem GN.p (g : GN F H T G w n) : giP (wP w n) := g.2.1
theorem GN.v (g : GN F H T G w n) : giV H T G (wN w n 1) (wY w n 5) := g.2.2.1
theorem GN.hd (g : GN F H T G w n) : giH H T G (wN w n 1) (wY w n 4) := g.2.2.2.1
theorem GN.d (g : GN F H T G w n) : giD T (wN w n 1) (wY w n 6) := g.2.2.2.2.1
theorem GN.s (g : GN F H T G w n) : giS H T (wY w n 3) := g.2.2.2.2.2.1
theorem GN.e (g : GN F H T G w n) : giE T (wY w n 2) := g.2.2.2.2.2.2.1
theorem GN.l (g : GN F H T G w n) : giL F H T G (wN w n 1) (wN w n 4) (wN w n 5) (wY w n 0 0) (wY w n 1 0) := g.2.2.2.2.2.2.2.1
theorem GN.o (g : GN F H T G w n) : giO T n (G n) (wN w n 1) (wN w n 2) (wN w n 17) (wY w n 8) := g.2.2.2.2.2.2.2.2.1
theorem GN.g (g : GN F H T G w n) : giG n (G n) (wN w n 1) (wN w n 2) (wN w n 3) (wN w n 17) (wY w n 8) := g.2.2.2.2.2.2.2.2.2.1
theorem GN.u (g : GN F H T G w n) : giU (G n) := g.2.2.2.2.2.2.2.2.2.2.1
theorem GN.b (g : GN F H T G w n) : giB (bkN (wN w) n) (wY w n 9 0) := g.2.2.2.2.2.2.2.2.2.2.2.1
theorem GN.f (g : GN F H T G w n) : giF (wN w n 0) (wN w n 1) (wN w n 17) (wY w n 4) (wY w n 5) (wY w n 8) n := g.2.2.2.2.2.2.2.2.2.2.2.2
theorem giV.mono {h : Int} {b : Nat → Option (List Nat)} (a : giV H T G h b) (hg : ∀ s m, G s m → G' s m) : giV H T G' h b := fun c p r s m c1 p1 r1 s1 e => by
  obtain ⟨a1, a2, a3, a4, a5, a6, a7, a8, a9⟩ := a c p r s m c1 p1 r1 s1 e
  exact ⟨a1, a2, a3, a4, a5, a6, a7, a8, fun z => hg _ _ (a9 z)⟩
theorem giH.mono {h : Int} {b : Nat → Option (List Nat)} (a : giH H T G h b) (hg : ∀ s m, G s m → G' s m) : giH H T G' h b := fun p r m p1 r1 e => by
  obtain ⟨a1, a2, a3, a4, a5, a6, a7, a8⟩ := a p r m p1 r1 e
  exact ⟨a1, a2, a3, a4, a5, a6, a7, fun z => hg _ _ (a8 z)⟩
theorem giL.mono {h l v : Int} {b0 b1 : Option (List Nat)} (a : giL F H T G h l v b0 b1) (hg : ∀ s m, G s m → G' s m) : giL F H T G' h l v b0 b1 := by
  obtain ⟨a1, a2, a3, a4⟩ := a
  refine ⟨a1, a2, a3, fun z => ?_⟩
  obtain ⟨b, b1, b2, b3⟩ := a4 z
  exact ⟨b, b1, b2, b3.mono hg⟩
theorem GS.mono {k : Sk} (a : GS H T G k) (hg : ∀ s m, G s m → G' s m) : GS H T G' k := fun x hx z => ⟨fun p q => hg _ _ ((a x hx z).1 p q), (a x hx z).2⟩
theorem bkN_cg {v v' : Nat → Nat → Int} (e : v' n = v n) : bkN v' n = bkN v n := by
  unfold bkN
  rw [e]
/-- another node -/
theorem GN.cg (g : GN F H T G w n) (hg : ∀ s m, G s m → G' s m) (hn : G' n = G n) (e1 : wN w' n = wN w n) (e2 : wY w' n = wY w n) (e3 : wP w' n = wP w n) : GN F H T G' w' n := by
  unfold GN
  rw [e1, e2, e3, hn, bkN_cg e1]
  exact ⟨g.a, g.p, g.v.mono hg, g.hd.mono hg, g.d, g.s, g.e, g.l.mono hg, g.o, g.g, g.u, g.b, g.f⟩
/-- a node's own doing -/
theorem GI.step (g : GI F H T G w) (hn : n < H) (f : wfr n w w') (hg : ∀ s m, G s m → G' s m) (ho : ∀ s, s ≠ n → G' s = G s) (gn : GN F H T G' w' n) (gs : GS H T G' (wK w')) : GI F H T G' w' := ⟨g.1, fun m hm => by
  by_cases e : m = n
  · rw [e]; exact gn
  · obtain ⟨a, b, c, d⟩ := f.1 m e
    exact (g.2.1 m hm).cg hg (ho m e) a b c, gs⟩
/-- of the snapshots F + 1 alike have an honest sender -/
theorem snC_cnt (w : Wd) (n : Nat) (m : List Nat) : ∀ k, snC w n m k = cnt (fun s => wY w n 3 s = some m) k
  | 0 => rfl
  | k + 1 => by
    unfold snC cnt
    rw [snC_cnt w n m k]
    by_cases c : wY w n 3 k = some m
    · rw [cif_pos c, if_pos c]
    · rw [cif_neg c, if_neg c]
theorem GN.ok (c : cst F H T) (g : GN F H T G w n) (k : giK (wN w n)) : nOK F T w n := by
  obtain ⟨a0, a1, a2, a3, a4, a5, a6, a7, a8, a9, a10, a11, a12, a13, a14⟩ := g.a
  refine ⟨a0, a1, a2, a3, a4, a5, a6, a7, a8, a9, ⟨a10, k.1⟩, a11, ⟨a12, k.2⟩, ⟨a13, a14⟩, fun q hq => ?_, ⟨fun s m s1 e => (g.d s m s1 e).2.2.1, fun q m q1 e => ?_, fun q m q1 e => ?_⟩, fun q m q1 e => ?_, fun j y j1 e e0 => ?_, fun s m s1 sf e => ?_⟩
  · obtain ⟨p1, p2, p3, p4, p5, p6⟩ := g.p q hq
    exact ⟨p4, p5⟩
  · have := g.hd (q / 16) (q % 16) m (by omega) (by omega) (by rw [show 16 * (q / 16) + q % 16 = q by omega]; exact e)
    exact this.2.2.2.2.1.2.2.1
  · have := g.v (q / 416) (q % 416 / 208) (q % 208 / 13) (q % 13) m (by omega) (by omega) (by omega) (by omega) (by rw [show vq (q / 416) (q % 416 / 208) (q % 208 / 13) (q % 13) = q by unfold vq; omega]; exact e)
    exact this.2.2.2.2.2.2.2.1
  · have := g.hd (q / 16) (q % 16) m (by omega) (by omega) (by rw [show 16 * (q / 16) + q % 16 = q by omega]; exact e)
    have := this.2.2.2.2.1.2.1
    unfold prV
    split <;> omega
  · obtain ⟨m, m1, m2, m3, m4⟩ := g.o j j1
    rw [e] at m1
    cases m1
    exact m4
  · have cb := c.b
    obtain ⟨_, s2, s3, s4, _⟩ := g.s s m (by omega) e
    refine ⟨s3.2.1, s3.2.2.1, ?_⟩
    obtain ⟨m', f1, f2, f3⟩ := sf
    rw [e] at f1
    cases f1
    rw [snC_cnt] at f3
    obtain ⟨x, x1, x2⟩ := hon c f3
    exact (g.s x m (by omega) x2).2.2.2.2 x1
end
end
