section
/-! BYTES OF THE CLASS'S ROWS -/
def sb (b : Nat) : Int32 := (nI b).toInt8.toInt32
theorem sb_and : ∀ b, b < 256 → sb b &&& nI 255 = nI b := by decide +kernel
theorem sb_toInt : ∀ b, b < 256 → (sb b).toInt = if b < 128 then (b : Int) else (b : Int) - 256 := by decide +kernel
section
variable {b k : Nat}
theorem sb_lt (hb : b < 256) (hk : k < 2147483648) : sb b < nI k ↔ (b < 128 ∧ b < k) ∨ 128 ≤ b := by
  rw [Int32.lt_iff_toInt_lt, sb_toInt b hb, nI_toInt (by omega)]
  split <;> omega
theorem sb_le (hb : b < 256) (hk : k < 2147483648) : sb b ≤ nI k ↔ (b < 128 ∧ b ≤ k) ∨ 128 ≤ b := by
  rw [Int32.le_iff_toInt_le, sb_toInt b hb, nI_toInt (by omega)]
  split <;> omega
theorem lt_sb (hb : b < 256) (hk : k < 2147483648) : nI k < sb b ↔ b < 128 ∧ k < b := by
  rw [Int32.lt_iff_toInt_lt, sb_toInt b hb, nI_toInt (by omega)]
  split <;> omega
theorem le_sb (hb : b < 256) (hk : k < 2147483648) : nI k ≤ sb b ↔ b < 128 ∧ k ≤ b := by
  rw [Int32.le_iff_toInt_le, sb_toInt b hb, nI_toInt (by omega)]
  split <;> omega
theorem sb_eq (hb : b < 256) (hk : k < 2147483648) : sb b = nI k ↔ b < 128 ∧ b = k := by
  rw [← Int32.toInt_inj, sb_toInt b hb, nI_toInt (by omega)]
  split <;> omega
theorem sb_eq0 (hb : b < 256) : sb b = 0 ↔ b = 0 := by
  rw [show (0 : Int32) = nI 0 from rfl, sb_eq hb (by omega)]
  omega
theorem sb_inj (hb : b < 256) (hk : k < 256) : sb b = sb k ↔ b = k := by
  rw [← Int32.toInt_inj, sb_toInt b hb, sb_toInt k hk]
  split <;> split <;> omega
end
theorem toInt8_and (x : Int32) : (x &&& nI 255).toInt8 = x.toInt8 := by
  apply Int8.toBitVec_inj.mp
  rw [Int32.toBitVec_toInt8, Int32.toBitVec_toInt8, Int32.toBitVec_and]
  apply BitVec.eq_of_getLsbD_eq
  intro i hi
  rw [BitVec.getLsbD_signExtend, BitVec.getLsbD_signExtend]
  have e : (nI 255).toBitVec.getLsbD i = decide (i < 8) := bit255
  simp [hi, show i < 32 by omega, e]
theorem sb_nb {x : Int32} (h : x.toInt8.toInt32 = x) : x = sb (nb x) := by
  unfold sb
  rw [← (nb_spec x).2, toInt8_and]
  exact h.symm
theorem sb_bb (x : Int32) : x.toInt8.toInt32 = sb (nb x) := by
  unfold sb
  rw [← (nb_spec x).2, toInt8_and]
theorem sb_n {a : Nat} : (nI a).toInt8.toInt32 = sb (a % 256) := by rw [sb_bb, nb_n]
/-- the first bytes of a row -/
def cB (s : cS) (r : Nat) (b : List Nat) : Prop := b.length ≤ cL s r ∧ cL s r ≤ 3000 ∧ (∀ i, i < b.length → cA s r i = sb (bg b i)) ∧ isB b
theorem someN {r : Nat} : ¬ (some r : Option Nat) = none := nofun
section
variable {N g H T r a e : Nat} {s : cS} {b : List Nat}
theorem cB.at_ (h : cB s r b) (hi : a < b.length) : cA s r (nI a).toNatClampNeg = sb (bg b a) := by
  have h1 := h.1
  have h2 := h.2.1
  rw [n_clamp (by omega)]
  exact h.2.2.1 a hi
theorem cB.an (h : cB s r b) (hi : a < b.length) : cA s r (nI a).toNatClampNeg &&& nI 255 = nI (bg b a) := by rw [h.at_ hi, sb_and _ (h.2.2.2 a)]
theorem twoBytes_ok (h : cB s r b) (ha : a + 2 ≤ b.length) : wp (p_X11_twoBytes N g H T s (some r) (nI a)) (k_X11_twoBytes N g H T s (some r) (nI a)) (fun v => v = nI (tw b a)) := by
  have h1 := h.1
  have h2 := h.2.1
  show wp (KO_X11_twoBytes_0 N g H T (some r) (nI a) s) (KF_X11_twoBytes_0 N g H T (some r) (nI a) s) _
  unfold KO_X11_twoBytes_0 KF_X11_twoBytes_0
  simp only [zsome, n_add]
  rw [h.an (a := a) (by omega), h.an (a := a + 1) (by omega), n_two (h.2.2.2 _) (h.2.2.2 _)]
  refine wp_neg (n_lt0 (by omega)) (wp_and someN (wp_pos (by rw [n_sub (by omega), n_le' (by omega) (by omega)]; omega) (wp_and ⟨someN, ((n_in (by omega)).2 (by omega))⟩ (wp_and ⟨someN, ((n_in (by omega)).2 (by omega))⟩ (wp_fin trivial rfl)))))
theorem heightFits_ok (h : cB s r b) (ha : a + 2 ≤ b.length) : wp (p_X1_heightFits N g H T s (some r) (nI a)) (k_X1_heightFits N g H T s (some r) (nI a)) (fun v => (hOK (tw b a) ∧ v = nI 1) ∨ (¬ hOK (tw b a) ∧ v = nI 0)) := by
  have t := tw_lt h.2.2.2 a
  obtain ⟨a1, a2⟩ := twoBytes_ok (N := N) (g := g) (H := H) (T := T) h ha
  show wp (KO_X1_heightFits_0 N g H T (some r) (nI a) s) (KF_X1_heightFits_0 N g H T (some r) (nI a) s) _
  unfold KO_X1_heightFits_0 KF_X1_heightFits_0 hOK
  rw [a2]
  refine wp_and a1 (wp_ite (fun c => ?_) (fun c => ?_)) <;> rw [n_lt' (by omega) (by omega)] at c
  · exact wp_fin rfl (Or.inr ⟨(by omega), rfl⟩)
  refine wp_ite (fun c2 => ?_) (fun c2 => ?_) <;> rw [n_lt' (by omega) (by omega)] at c2
  · exact wp_fin rfl (Or.inr ⟨(by omega), rfl⟩)
  · exact wp_fin rfl (Or.inl ⟨(by omega), rfl⟩)
theorem paymentFits_ok (h : cB s r b) (ha : a + 7 ≤ b.length) : wp (p_X1_paymentFits N g H T s (some r) (nI a)) (k_X1_paymentFits N g H T s (some r) (nI a)) (fun v => (payOK b a ∧ v = nI 1) ∨ (¬ payOK b a ∧ v = nI 0)) := by
  have h1 := h.1
  have h2 := h.2.1
  have t := tw_lt h.2.2.2 (a + 2)
  have t0 := h.2.2.2 a
  have t1 := h.2.2.2 (a + 1)
  have t6 := h.2.2.2 (a + 6)
  obtain ⟨a1, a2⟩ := twoBytes_ok (N := N) (g := g) (H := H) (T := T) (a := a + 2) h (by omega)
  show wp (KO_X1_paymentFits_0 N g H T (some r) (nI a) s) (KF_X1_paymentFits_0 N g H T (some r) (nI a) s) _
  unfold KO_X1_paymentFits_0 KF_X1_paymentFits_0 payOK
  simp only [zsome, n_add]
  rw [a2, h.an (a := a) (by omega), h.an (a := a + 1) (by omega), h.at_ (a := a + 6) (by omega)]
  refine wp_neg (n_lt0 (by omega)) (wp_and someN (wp_pos (by rw [n_sub (by omega), n_le' (by omega) (by omega)]; omega) (wp_and ⟨someN, ((n_in (by omega)).2 (by omega))⟩ (wp_and ⟨someN, ((n_in (by omega)).2 (by omega))⟩ (wp_and a1 ?_)))))
  refine wp_ite (fun c1 => ?_) (fun c1 => ?_) <;> rw [n_le' (by omega) (by omega)] at c1
  · exact wp_fin rfl (Or.inr ⟨(by omega), rfl⟩)
  refine wp_ite (fun c2 => ?_) (fun c2 => ?_) <;> rw [n_le' (by omega) (by omega)] at c2
  · exact wp_fin rfl (Or.inr ⟨(by omega), rfl⟩)
  refine wp_ite (fun c3 => ?_) (fun c3 => ?_) <;> rw [n_eq' (by omega) (by omega)] at c3
  · exact wp_fin rfl (Or.inr ⟨(by omega), rfl⟩)
  refine wp_ite (fun c4 => ?_) (fun c4 => ?_) <;> rw [n_lt' (by omega) (by omega)] at c4
  · exact wp_fin rfl (Or.inr ⟨(by omega), rfl⟩)
  refine wp_ite (fun c5 => ?_) (fun c5 => ?_) <;> rw [n_lt' (by omega) (by omega)] at c5
  · exact wp_fin rfl (Or.inr ⟨(by omega), rfl⟩)
  refine wp_and ⟨someN, ((n_in (by omega)).2 (by omega))⟩ (wp_ite (fun c6 => ?_) (fun c6 => ?_)) <;> rw [sb_lt (by omega) (by omega)] at c6
  · exact wp_fin rfl (Or.inr ⟨(by omega), rfl⟩)
  refine wp_and ⟨someN, ((n_in (by omega)).2 (by omega))⟩ (wp_ite (fun c7 => ?_) (fun c7 => ?_)) <;> rw [lt_sb (by omega) (by omega)] at c7
  · exact wp_fin rfl (Or.inr ⟨(by omega), rfl⟩)
  exact wp_fin rfl (Or.inl ⟨(by omega), rfl⟩)
theorem isLessC_ok {p q : Nat} (h : cB s r b) (hN : 100 ≤ N) (hp : p + 32 ≤ b.length) (hq : q + 32 ≤ b.length) : wp (p_X1_isLess N g H T s (some r) (nI p) (nI q)) (k_X1_isLess N g H T s (some r) (nI p) (nI q)) (fun v => (lessB b p q ∧ v = nI 1) ∨ (¬ lessB b p q ∧ v = nI 0)) := by
  have h1 := h.1
  have h2 := h.2.1
  have h4 := h.2.2.2
  refine wp_seq (Q := fun z => (∃ k, k < 32 ∧ (∀ j, j < k → bg b (p + j) = bg b (q + j)) ∧ bg b (p + k) ≠ bg b (q + k) ∧ z = (0, some r, nI p, nI q, nI k, ())) ∨ ((∀ j, j < 32 → bg b (p + j) = bg b (q + j)) ∧ z.1 = 1)) ?_ ?_
  · refine wp_loop (K := 32) (fun j (s : Unit) => ∀ i, i < j → bg b (p + i) = bg b (q + i)) (fun n j _ => KOL_X1_isLess_2 N g H T n (some r) (nI p) (nI q) (nI j) s) (fun n j _ => KL_X1_isLess_2 N g H T n (some r) (nI p) (nI q) (nI j) s) (fun n j u hj hI ih => ?_) 0 N () (by omega) (by omega) (fun i hi => absurd hi (by omega))
    by_cases e : j = 32
    · refine wp_pos (by rw [n_le' (by omega) (by omega)]; omega) ?_
      subst e
      exact (wp_fin trivial (Or.inr ⟨hI, rfl⟩))
    · refine wp_neg (by rw [n_le' (by omega) (by omega)]; omega) ?_
      have t1 := h4 (p + j)
      have t2 := h4 (q + j)
      simp only [n_add, zsome]
      rw [h.at_ (a := p + j) (by omega), h.at_ (a := q + j) (by omega)]
      refine wp_and ⟨someN, ((n_in (by omega)).2 (by omega))⟩ (wp_and ⟨someN, ((n_in (by omega)).2 (by omega))⟩ (wp_ite (fun c => ?_) (fun c => ?_))) <;> rw [sb_inj (by omega) (by omega)] at c
      · exact ih () (fun i hi => by
          by_cases e2 : i = j
          · rw [e2]; exact c
          · exact hI i (by omega)) (by omega)
      · exact wp_fin trivial (Or.inl ⟨j, (by omega), hI, c, rfl⟩)
  · rintro z (⟨k, k1, k2, k3, rfl⟩ | ⟨k1, k2⟩)
    · have t1 := h4 (p + k)
      have t2 := h4 (q + k)
      show wp (KO_X1_isLess_21 N g H T (some r) (nI p) (nI q) (nI k) s) (KF_X1_isLess_21 N g H T (some r) (nI p) (nI q) (nI k) s) _
      unfold KO_X1_isLess_21 KF_X1_isLess_21
      simp only [n_add, zsome]
      rw [h.an (a := p + k) (by omega), h.an (a := q + k) (by omega)]
      refine wp_and ⟨someN, ((n_in (by omega)).2 (by omega))⟩ (wp_and ⟨someN, ((n_in (by omega)).2 (by omega))⟩ (wp_ite (fun c => ?_) (fun c => ?_))) <;> rw [n_le' (by omega) (by omega)] at c
      · refine wp_fin rfl (Or.inr ⟨?_, rfl⟩)
        rintro ⟨i, i1, i2, i3⟩
        by_cases e1 : i < k
        · have := k2 i e1
          omega
        · by_cases e2 : i = k
          · subst e2; omega
          · have := i2 k (by omega)
            omega
      · exact wp_fin rfl (Or.inl ⟨⟨k, (by omega), k2, (by omega)⟩, rfl⟩)
    · unfold KOA_X1_isLess_2 KA_X1_isLess_2
      rw [if_neg (by omega), if_neg (by omega)]
      refine wp_fin trivial (Or.inr ⟨?_, rfl⟩)
      rintro ⟨i, i1, i2, i3⟩
      have := k1 i i1
      omega
/-- how long an evidence is that stands whole ahead of e, or -1 -/
def evC (b : List Nat) (a e : Nat) : Int := if a + 39 ≤ e ∧ bg b (a + 5) = 0 ∧ bg b (a + 6) = 1 then 39 else if a + 71 ≤ e ∧ bg b (a + 5) = 1 ∧ bg b (a + 38) = 1 then 71 else -1
theorem evidenceSize_ok (h : cB s r b) (he : e ≤ b.length) (ha : a ≤ 3000) : wp (p_X1_evidenceSize N g H T s (some r) (nI a) (nI e)) (k_X1_evidenceSize N g H T s (some r) (nI a) (nI e)) (fun v => v = iI (evC b a e)) := by
  have h1 := h.1
  have h2 := h.2.1
  have t5 := h.2.2.2 (a + 5)
  have t6 := h.2.2.2 (a + 6)
  have t38 := h.2.2.2 (a + 38)
  show wp (KO_X1_evidenceSize_0 N g H T (some r) (nI a) (nI e) s) (KF_X1_evidenceSize_0 N g H T (some r) (nI a) (nI e) s) _
  unfold KO_X1_evidenceSize_0 KF_X1_evidenceSize_0 evC
  simp only [zsome, n_add]
  refine wp_neg (n_lt0 (by omega)) (wp_and someN (wp_neg (by rw [n_lt' (by omega) (by omega)]; omega) ?_))
  by_cases c : a + 39 ≤ e
  · rw [n_sub (by omega)]
    rw [h.at_ (a := a + 5) (by omega), h.at_ (a := a + 6) (by omega)]
    refine wp_pos (by rw [n_le' (by omega) (by omega)]; omega) (wp_and ⟨someN, ((n_in (by omega)).2 (by omega))⟩ (wp_ite (fun c1 => ?_) (fun c1 => ?_))) <;> rw [sb_eq0 (by omega)] at c1
    · refine wp_and ⟨someN, ((n_in (by omega)).2 (by omega))⟩ (wp_ite (fun c2 => ?_) (fun c2 => ?_)) <;> rw [sb_eq (by omega) (by omega)] at c2
      · refine wp_fin trivial ?_
        rw [if_pos (by omega)]; rfl
      · refine wp_fin trivial ?_
        rw [if_neg (by omega), if_neg (by omega)]; rfl
    refine wp_and ⟨someN, ((n_in (by omega)).2 (by omega))⟩ (wp_ite (fun c2 => ?_) (fun c2 => ?_)) <;> rw [sb_eq (by omega) (by omega)] at c2
    · refine wp_ite (fun c3 => ?_) (fun c3 => ?_) <;> rw [n_lt' (by omega) (by omega)] at c3
      · refine wp_fin ⟨fun _ => trivial, fun _ => trivial⟩ ?_
        rw [if_neg (by omega), if_neg (by omega)]; rfl
      rw [h.at_ (a := a + 6 + 32) (by omega)]
      refine wp_and ⟨someN, ((n_in (by omega)).2 (by omega))⟩ (wp_ite (fun c4 => ?_) (fun c4 => ?_)) <;> rw [sb_eq (by omega) (by omega), show a + 6 + 32 = a + 38 from rfl] at c4
      · refine wp_fin ⟨fun _ => trivial, fun _ => trivial⟩ ?_
        rw [if_neg (by omega), if_pos (by omega)]; rfl
      · refine wp_fin ⟨fun _ => trivial, fun _ => trivial⟩ ?_
        rw [if_neg (by omega), if_neg (by omega)]; rfl
    · refine wp_fin ⟨fun _ => trivial, fun _ => trivial⟩ ?_
      rw [if_neg (by omega), if_neg (by omega)]; rfl
  · refine wp_neg ?_ (wp_fin trivial ?_)
    · rw [Int32.le_iff_toInt_le, show nI e - nI a = iI ((e : Int) - a) by rw [← iI_n, ← iI_n]; exact (Int32.ofInt_sub _ _).symm, iI_toInt (by omega) (by omega), nI_toInt (by omega)]
      omega
    · rw [if_neg (by omega), if_neg (by omega)]; rfl
end
end
