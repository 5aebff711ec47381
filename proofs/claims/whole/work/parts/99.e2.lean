/-! the product, the reference -/
def y_a (f1 f2 : Int → Int) (s : Nat) : Int := if s < 9 then f1 s else f2 ((s : Int) - 9)
theorem pd_f {f f' g : Int → Int} {n : Int} (h : ∀ s : Int, 0 ≤ s → s ≤ n.toNat → f s = f' s) : ∀ b, pd f g n b = pd f' g n b
  | 0 => rfl
  | b + 1 => by
    have := m_cg_le g b n.toNat
    rw [pd, pd, pd_f h b, h _ this.1 this.2]
theorem y_gN_N {g : Int → Int} {n : Nat} (h : ∀ i : Int, 0 ≤ i → i < n → 0 ≤ g i) : ∀ i : Int, 0 ≤ i → i < n → y_gN (y_N (o_tl g 0 n)) i = g i := fun i a b => by
  unfold y_gN y_N
  have e := o_tl_get g n 0 i.toNat (by omega)
  rw [show (0 : Int) + (i.toNat : Int) = i by omega] at e
  have hl : i.toNat < (o_tl g 0 n).length := by rw [o_tl_len]; omega
  rw [List.getD_eq_getElem?_getD, List.getElem?_eq_getElem hl] at e
  rw [List.getD_eq_getElem?_getD, List.getElem?_map, List.getElem?_eq_getElem hl]
  show ((Int.toNat ((o_tl g 0 n)[i.toNat]) : Nat) : Int) = g i
  have e : (o_tl g 0 n)[i.toNat] = g i := e
  rw [e]
  have := h i a b
  omega
theorem y_row_em {f1 f2 g K : Int → Int} {n : Nat} {b1 b2 : Int} (hn : n ≤ 8) (hg : m_rgs g n) (hok : y_ok (y_FL (y_N (o_tl g 0 n))) (y_K (o_tl g 0 n) n) n = true) (hK : o_K g K n) (h1 : m_nb g n b1) (h2 : m_nb K n b2) : y_em (y_a f1 f2) (y_rm n (o_tl g 0 n)) = pd f1 g n b1.toNat * pd f2 K n b2.toNat := by
  have hl : (y_N (o_tl g 0 n)).length = n := by unfold y_N; rw [List.length_map, o_tl_len]
  have k1 := y_ok_K hl hok
  have eg := y_gN_N (g := g) (n := n) (fun i a b => (hg i a b).1)
  have k2 : o_K g (y_gN (y_K (o_tl g 0 n) n)) n := ⟨k1.1, fun i j a b c d => (k1.2 i j a b c d).trans (m_kr_iff eg ⟨a, b⟩ ⟨c, d⟩)⟩
  have eK : ∀ k, 0 ≤ k → k < (n : Int) → y_gN (y_K (o_tl g 0 n) n) k = K k := m_rgs_same k2.1 hK.1 (fun i j a b c d => (k2.2 i j a b c d).trans (hK.2 i j a b c d).symm)
  have n1 := m_nb_eq (y_nb_m (y_N (o_tl g 0 n))) (h := y_gN (y_N (o_tl g 0 n))) (fun _ _ _ => rfl)
  rw [hl] at n1
  have e1 := m_nb_uniq (m_nb_eq n1 eg) h1
  have hlK : (y_K (o_tl g 0 n) n).length = n := by
    have key : ∀ (F : List (Nat × Nat)) (m k : Nat) (K : List Nat) (f : Nat), (y_kl F m k K f).length = K.length + m := by
      intro F m
      induction m with
      | zero => intro k K f; rfl
      | succ m ih =>
        intro k K f
        have nw : ∀ (v : Nat) (c : Nat → List Nat) (z : Nat), (∀ w, (c w).length = z) → (y_now v c).length = z := fun v c z h => by
          cases v with
          | zero => exact h 0
          | succ v => exact h (v + 1)
        unfold y_kl
        refine nw _ _ _ (fun v => nw _ _ _ (fun f' => ?_))
        rw [ih, List.length_append]
        show K.length + 1 + m = K.length + (m + 1)
        omega
    unfold y_K
    rw [key]
    show 0 + n = n
    omega
  have n2 := y_nb_m (y_K (o_tl g 0 n) n)
  rw [hlK] at n2
  have e2 := m_nb_uniq (m_nb_eq n2 eK) h2
  unfold y_rm
  rw [y_em_mono, pd_eq eg, pd_eq eK, ← e1, ← e2]
  have z1 : ∀ m : Nat, ((m : Nat) : Int).toNat = m := fun m => by omega
  rw [z1, z1]
  congr 1
  · exact pd_f (fun s a b => by
      unfold y_a
      rw [if_pos (by omega), show ((s.toNat + 0 : Nat) : Int) = s by omega]) _
  · exact pd_f (fun s a b => by
      unfold y_a
      rw [if_neg (by omega), show ((s.toNat + 9 : Nat) : Int) - 9 = s by omega]) _
/-- the sum over all free rows -/
def y_su (f1 f2 : Int → Int) (n i : Int) : Int := o_sum (fun r => y_em (y_a f1 f2) (y_rm n.toNat r)) ((o_L n).take i.toNat)
theorem y_su_S {f1 f2 g K : Int → Int} {n i b1 b2 : Int} (hn : 1 ≤ n ∧ n ≤ 8) (hg : o_is g n i) (hK : o_K g K n) (h1 : m_nb g n b1) (h2 : m_nb K n b2) : y_su f1 f2 n (i + 1) = y_su f1 f2 n i + pd f1 g n b1.toNat * pd f2 K n b2.toNat := by
  have i0 := hg.1
  have hok := y_mem (n := n.toNat) (by omega) (by omega) (List.mem_of_getElem? hg.2)
  have rg := (o_is_fr (by omega) hg).1
  have en : ((n.toNat : Nat) : Int) = n := by omega
  unfold y_su
  rw [show (i + 1).toNat = i.toNat + 1 by omega, o_sum_take hg.2]
  congr 1
  have := y_row_em (f1 := f1) (f2 := f2) (g := g) (K := K) (n := n.toNat) (b1 := b1) (b2 := b2) (by omega) (by rw [en]; exact rg) hok (by rw [en]; exact hK) (by rw [en]; exact h1) (by rw [en]; exact h2)
  rw [en] at this
  exact this
theorem y_su_all {f1 f2 : Int → Int} {n i : Int} (hn : 1 ≤ n ∧ n ≤ 8) (h : i = k_ways n.toNat 0) : y_su f1 f2 n i = y_ep (y_a f1 f2) (y_PN.getD n.toNat []) := by
  have hl : ((o_cp n.toNat [] 0).length : Int) = k_ways n.toNat 0 := o_len n.toNat [] 0
  unfold y_su
  rw [List.take_of_length_le, y_tot (by omega) (by omega)]
  show (o_cp n.toNat [] 0).length ≤ i.toNat
  omega
theorem y_mmod {p A f B : Int} : (A % p * f) % p = (A * f) % p := by rw [Int.mul_emod, Int.emod_emod, ← Int.mul_emod]
theorem m_nb_b {g : Int → Int} {n r : Int} (hg : m_rgs g n) (h : m_nb g n r) (hn : 0 ≤ n) : 0 ≤ r ∧ r ≤ n := by
  refine ⟨h.1, ?_⟩
  rcases h.2.2 with e | ⟨i, i1, i2, i3⟩
  · omega
  · have := m_rgs_lt hg i1 i2
    omega
theorem m_nb_ex {g : Int → Int} : ∀ n : Nat, (∀ i : Int, 0 ≤ i → i < n → 0 ≤ g i) → ∃ b, m_nb g n b
  | 0, _ => ⟨0, Int.le_refl _, fun i a b => by omega, Or.inl rfl⟩
  | n + 1, h => by
    obtain ⟨b, b1, b2, b3⟩ := m_nb_ex n (fun i a c => h i a (by omega))
    have hn := h n (by omega) (by omega)
    by_cases q : g n < b
    · refine ⟨b, b1, fun i a c => ?_, b3.elim Or.inl (fun ⟨i, x, y, z⟩ => Or.inr ⟨i, x, by omega, z⟩)⟩
      by_cases e : i = n
      · rw [e]; exact q
      · exact b2 i a (by omega)
    · refine ⟨g n + 1, by omega, fun i a c => ?_, Or.inr ⟨n, by omega, by omega, rfl⟩⟩
      by_cases e : i = n
      · rw [e]; omega
      · have := b2 i a (by omega); omega
theorem s_M_mixed {G : am_G} {d : Nat} {sh : Int → Option Nat} {V : am_V} {T : Nat} {Q : Option AV → am_V → am_T → Nat → Prop} {p n : Int} (hp : 1 < p ∧ p ≤ 2000000000) (e0 : V 86 2 = p) (hn : 1 ≤ n ∧ n ≤ 8) (hc : ∀ s, 1 ≤ s → s ≤ n → (0 ≤ V 100 (9 + s) ∧ V 100 (9 + s) < p) ∧ 0 ≤ V 100 (18 + s) ∧ V 100 (18 + s) < p) (hQ : ∀ V', (∀ a, a ≠ 93 → a ≠ 94 → V' a = V a) → Q (some (vJ (y_ep (y_a (fun s => V 100 (9 + s)) (fun s => V 100 (18 + s))) (y_PN.getD n.toNat []) % p))) V' (am_RF sh) T) : am_Calls G (d + 4) 128 [vR 86, vI n] V (am_RF sh) T Q := by
  obtain ⟨f1, hf1⟩ : ∃ f1 : Int → Int, f1 = fun s => V 100 (9 + s) := ⟨_, rfl⟩
  obtain ⟨f2, hf2⟩ : ∃ f2 : Int → Int, f2 = fun s => V 100 (18 + s) := ⟨_, rfl⟩
  rw [← hf1, ← hf2] at hQ
  have E1 : ∀ s, V 100 (9 + s) = f1 s := fun s => by rw [hf1]
  have E2 : ∀ s, V 100 (18 + s) = f2 s := fun s => by rw [hf2]
  clear hf1 hf2
  have loop : ∀ (jj : Nat) (i su : Int) (x5 x7 : Option AV) (W : am_V), k_ways n.toNat 0 - i < jj → (∀ a, a ≠ 93 → a ≠ 94 → W a = V a) → o_is (fun x => W 93 (0 + x)) n i → su = y_su f1 f2 n i % p → am_Sem G (d + 3) 128 V T Q 11 [some (vR 86), some (vI n), some (vJ su), none, some (vI 1), x5, none, x7] [] W (am_RF sh) T 0 0 := by
    intro jj
    induction jj with
    | zero =>
      intro i su x5 x7 W a w1 w2
      have := o_is_lt w2
      omega
    | succ jj ih =>
      intro i su x5 x7 W a w1 w2 w3
      obtain ⟨g1, g2⟩ := o_is_fr (by omega) w2
      have grn : ∀ j, 0 ≤ j → j < n → 0 ≤ W 93 (0 + j) ∧ W 93 (0 + j) ≤ 9 := fun j a b => by
        have z : 0 ≤ W 93 (0 + j) ∧ W 93 (0 + j) ≤ j := m_rgs_lt g1 a b
        omega
      have sur : 0 ≤ su ∧ su < p := by rw [w3]; exact m_modr (by omega)
      refine am_run 400 mt_M_mixed ok_M_mixed (fun K S hK hS => ?_)
      iterate 30 (all_goals (first
        | (simp only [am_st2, am_st1, am_set, am_cut, am_get])
        | (refine And.intro (by omega) ?_)
        | (refine And.intro (fun hb => absurd hb (by omega)) (fun hb => ?_))
        | (refine And.intro (fun hb => ?_) (fun hb => absurd hb (by omega)))
        | (refine And.intro (fun hb => ?_) (fun hb => ?_))
        | (intro hb)
        | (conv => whnf)))
      refine hK (s_M_complement (p := 0) (by omega) (by omega) (by omega) (fun j a b => by have := grn j a b; constructor <;> omega) (fun X x1 x2 x3 => ?_))
      iterate 30 (all_goals (first
        | (simp only [am_st2, am_st1, am_set, am_cut, am_get])
        | (refine And.intro (by omega) ?_)
        | (refine And.intro (fun hb => absurd hb (by omega)) (fun hb => ?_))
        | (refine And.intro (fun hb => ?_) (fun hb => absurd hb (by omega)))
        | (refine And.intro (fun hb => ?_) (fun hb => ?_))
        | (intro hb)
        | (conv => whnf)))
      refine hK (s_M_relabel (p := 20) (by omega) (by omega) (by omega) (fun j a b => ?_) (fun Y y1 y2 y3 y4 => ?_))
      · have z := x3 (j - 20) (by omega) (by omega)
        rw [show 20 + (j - 20) = j by omega] at z
        have z1 := z.1
        have z2 := z.2.1
        constructor <;> omega
      have yr : ∀ j, 0 ≤ j → j < n → Y 93 (0 + j) = W 93 (0 + j) := fun j a b => by rw [y2 _ (by omega), x2 _ (by omega)]
      have rgY : m_rgs (fun x => Y 93 (0 + x)) n := m_rgs_eq g1 (fun j a b => (yr j a b).symm)
      have isY : o_is (fun x => Y 93 (0 + x)) n i := o_is_same w2 (fun j a b => (yr j a b).symm)
      have hK' : o_K (fun x => Y 93 (0 + x)) (fun x => Y 93 (20 + x)) n := ⟨y4, fun u v a b c e => by
        have q := (y3 u v a b c e).trans (m_cp_kr ⟨a, b⟩ ⟨c, e⟩ (x3 u a b) (x3 v c e))
        exact q.trans (m_kr_iff (fun j a b => (yr j a b).symm) ⟨a, b⟩ ⟨c, e⟩)⟩
      have fY : ∀ a, a ≠ 93 → a ≠ 94 → Y a = V a := fun a z1 z2 => by rw [y1 a z1 z2, x1 a z1, w1 a z1 z2]
      obtain ⟨b1, hb1⟩ := m_nb_ex (g := fun x => Y 93 (0 + x)) n.toNat (fun j a b => (rgY j a (by omega)).1)
      obtain ⟨b2, hb2⟩ := m_nb_ex (g := fun x => Y 93 (20 + x)) n.toNat (fun j a b => (y4 j a (by omega)).1)
      rw [show ((n.toNat : Nat) : Int) = n by omega] at hb1 hb2
      have hS1 := y_su_S (f1 := f1) (f2 := f2) hn isY hK' hb1 hb2
      have bb1 := m_nb_b rgY hb1 (by omega)
      have bb2 := m_nb_b y4 hb2 (by omega)
      have e86 : Y 86 2 = p := by rw [fY 86 (by decide) (by decide)]; exact e0
      have ec1 : ∀ s, Y 100 (9 + s) = f1 s := fun s => by rw [fY 100 (by decide) (by decide)]; exact E1 s
      have ec2 : ∀ s, Y 100 (18 + s) = f2 s := fun s => by rw [fY 100 (by decide) (by decide)]; exact E2 s
      have hr1 : ∀ j, 0 ≤ j → j < n → 0 ≤ Y 93 (0 + j) ∧ Y 93 (0 + j) < 1000 := fun j a b => by rw [yr j a b]; have := grn j a b; omega
      have hr2 : ∀ j, 0 ≤ j → j < n → 0 ≤ Y 93 (20 + j) ∧ Y 93 (20 + j) < 1000 := fun j a b => by
        have z : 0 ≤ Y 93 (20 + j) ∧ Y 93 (20 + j) ≤ j := m_rgs_lt y4 a b
        omega
      have hi1 : ∀ j, 0 ≤ j → j < 0 + n → am_in32 (Y 93 j) := fun j a b => by
        have := hr1 j a (by omega)
        rw [Int.zero_add] at this
        constructor <;> omega
      have hi2 : ∀ j, 20 ≤ j → j < 20 + n → am_in32 (Y 93 j) := fun j a b => by
        have := hr2 (j - 20) (by omega) (by omega)
        rw [show 20 + (j - 20) = j by omega] at this
        constructor <;> omega
      /- behind both loops -/
      have nx1 : ∀ (v : Int) (b : Int), v = (pd f1 (fun x => Y 93 (0 + x)) n b1.toNat * pd f2 (fun x => Y 93 (20 + x)) n b2.toNat) % p → ∀ Z : am_V, (∀ a, a ≠ 93 → Z a = Y a) → m_rgs (fun i => Z 93 (0 + i)) n → ¬ m_Cr (fun i => Z 93 (0 + i)) n → o_lt (fun i => Y 93 (0 + i)) (fun i => Z 93 (0 + i)) n → (∀ f, m_rgs f n → ¬ m_Cr f n → o_lt (fun i => Y 93 (0 + i)) f n → ¬ o_lt f (fun i => Z 93 (0 + i)) n) → am_Sem G (d + 3) 128 V T Q 11 [some (vR 86), some (vI n), some (vJ ((su + v) % p)), none, some (vI 1), some (vJ v), none, some (vI b)] [] Z (am_RF sh) T 0 0 := by
        intro v b ev Z z1 z2 z3 z4 z5
        refine ih (i + 1) _ _ _ Z (by have := o_is_lt w2; omega) (fun a q1 q2 => by rw [z1 a q1, fY a q1 q2]) (o_is_next (by omega) isY z2 z3 z4 z5) ?_
        rw [hS1, ev, w3, ← Int.add_emod]
      have nx0 : ∀ (v : Int) (b : Int), v = (pd f1 (fun x => Y 93 (0 + x)) n b1.toNat * pd f2 (fun x => Y 93 (20 + x)) n b2.toNat) % p → ∀ Z : am_V, (∀ a, a ≠ 93 → Z a = Y a) → (∀ f, m_rgs f n → ¬ m_Cr f n → ¬ o_lt (fun i => Y 93 (0 + i)) f n) → am_Sem G (d + 3) 128 V T Q 11 [some (vR 86), some (vI n), some (vJ ((su + v) % p)), none, some (vI 0), some (vJ v), none, some (vI b)] [] Z (am_RF sh) T 0 0 := by
        intro v b ev Z z1 z2
        have l := o_is_last (by omega) isY z2
        have q := hQ Z (fun a q1 q2 => by rw [z1 a q1, fY a q1 q2])
        have es : (su + v) % p = y_ep (y_a f1 f2) (y_PN.getD n.toNat []) % p := by
          rw [← y_su_all hn l, hS1, ev, w3, ← Int.add_emod]
        rw [← es] at q
        clear hQ ih es ev hS1
        refine am_run 400 mt_M_mixed ok_M_mixed (fun K S hK hS => ?_)
        iterate 30 (all_goals (first
          | (simp only [am_st2, am_st1, am_set, am_cut, am_get])
          | (refine And.intro (by omega) ?_)
          | (refine And.intro (fun hb => absurd hb (by omega)) (fun hb => ?_))
          | (refine And.intro (fun hb => ?_) (fun hb => absurd hb (by omega)))
          | (refine And.intro (fun hb => ?_) (fun hb => ?_))
          | (intro hb)
          | (conv => whnf)))
        exact q
      clear ih hQ x1 x2 x3 y1 y2 y3 w2 w3 grn yr g1 g2 hS1
      have l2 : ∀ (j2 : Nat) (b v : Int), 0 ≤ b → b ≤ b2 → b2 - b < j2 → v = (pd f1 (fun x => Y 93 (0 + x)) n b1.toNat * pd f2 (fun x => Y 93 (20 + x)) n b.toNat) % p → am_Sem G (d + 3) 128 V T Q 82 [some (vR 86), some (vI n), some (vJ su), none, some (vI 1), some (vJ v), none, some (vI b)] [] Y (am_RF sh) T 0 0 := by
        intro j2
        induction j2 with
        | zero => intro b v z0 z1 z2; omega
        | succ j2 ih2 =>
          intro b v z0 z1 z2 ev
          have vr : 0 ≤ v ∧ v < p := by rw [ev]; exact m_modr (by omega)
          by_cases hb : b = b2
          · rw [hb] at ev
            have n1 := nx1 v b ev
            have n0 := nx0 v b ev
            have et : Int.tmod (su + v) p = (su + v) % p := m_tm (by omega)
            clear nx1 nx0 ih2 ev
            refine am_run 400 mt_M_mixed ok_M_mixed (fun K S hK hS => ?_)
            iterate 30 (all_goals (first
              | (simp only [am_st2, am_st1, am_set, am_cut, am_get])
              | (refine And.intro (by omega) ?_)
              | (refine And.intro (fun hb => absurd hb (by omega)) (fun hb => ?_))
              | (refine And.intro (fun hb => ?_) (fun hb => absurd hb (by omega)))
              | (refine And.intro (fun hb => ?_) (fun hb => ?_))
              | (intro hb)
              | (conv => whnf)))
            refine hK (s_M_blocks (p := 20) (by omega) (by omega) (by omega) hr2 (fun r' q0 q1 q2 => ?_))
            have er : r' = b := by rw [hb]; exact m_nb_uniq (g := fun i => Y 93 (20 + i)) ⟨q0, q1, q2⟩ hb2
            clear q1 q2
            iterate 30 (all_goals (first
              | (simp only [am_st2, am_st1, am_set, am_cut, am_get])
              | (refine And.intro (by omega) ?_)
              | (refine And.intro (by decide) ?_)
              | (refine And.intro (fun hb => absurd hb (by omega)) (fun hb => ?_))
              | (refine And.intro (fun hb => ?_) (fun hb => absurd hb (by omega)))
              | (refine And.intro (fun hb => ?_) (fun hb => ?_))
              | (intro hb)
              | (simp only [e86, et])
              | (conv => whnf)))
            refine hK (s_M_nextFree (by omega) (by omega) (by omega) rgY (fun Z z1 z2 z3 z4 z5 z6 => ?_) (fun Z z1 z2 z3 => ?_))
            · have n1 := n1 Z z1 z3 z4 z5 z6
              iterate 30 (all_goals (first
                | (simp only [am_st2, am_st1, am_set, am_cut, am_get])
                | (refine And.intro (by omega) ?_)
                | (refine And.intro (fun hb => absurd hb (by omega)) (fun hb => ?_))
                | (refine And.intro (fun hb => ?_) (fun hb => absurd hb (by omega)))
                | (refine And.intro (fun hb => ?_) (fun hb => ?_))
                | (intro hb)
                | (conv => whnf)))
              exact hS n1
            · have n0 := n0 Z z1 z3
              iterate 30 (all_goals (first
                | (simp only [am_st2, am_st1, am_set, am_cut, am_get])
                | (refine And.intro (by omega) ?_)
                | (refine And.intro (fun hb => absurd hb (by omega)) (fun hb => ?_))
                | (refine And.intro (fun hb => ?_) (fun hb => absurd hb (by omega)))
                | (refine And.intro (fun hb => ?_) (fun hb => ?_))
                | (intro hb)
                | (conv => whnf)))
              exact hS n0
          · obtain ⟨u, u1, u2, u3⟩ := m_nb_met y4 hb2 z0 (by omega)
            have rp := m_cg_pos (g := fun i => Y 93 (20 + i)) u1 u2 u3
            have rc := m_cg_le (fun i => Y 93 (20 + i)) b n.toNat
            have es := m_cnt_cg Y 20 b n.toNat
            have nv := ih2 (b + 1) ((v * f2 (m_cg (fun i => Y 93 (20 + i)) b n.toNat)) % p) (by omega) (by omega) (by omega) (by
              rw [pd_S _ _ _ _ z0, ev, y_mmod (B := 0), Int.mul_assoc])
            obtain ⟨C, hC⟩ : ∃ C, C = m_cg (fun i => Y 93 (20 + i)) b n.toNat := ⟨_, rfl⟩
            rw [← hC] at nv rp rc es
            have fr := (hc C rp (by omega)).2
            rw [E2] at fr
            have fe := ec2 C
            have rm := m_mulr vr.1 vr.2 fr.1 fr.2 hp.2
            have et : Int.tmod (v * f2 C) p = (v * f2 C) % p := m_tm rm.1
            clear hC u3 ih2 nx1 nx0 ev
            refine am_run 400 mt_M_mixed ok_M_mixed (fun K S hK hS => ?_)
            iterate 30 (all_goals (first
              | (simp only [am_st2, am_st1, am_set, am_cut, am_get])
              | (refine And.intro (by omega) ?_)
              | (refine And.intro (fun hb => absurd hb (by omega)) (fun hb => ?_))
              | (refine And.intro (fun hb => ?_) (fun hb => absurd hb (by omega)))
              | (refine And.intro (fun hb => ?_) (fun hb => ?_))
              | (intro hb)
              | (conv => whnf)))
            refine hK (s_M_blocks (p := 20) (by omega) (by omega) (by omega) hr2 (fun r' q0 q1 q2 => ?_))
            have er : r' = b2 := m_nb_uniq (g := fun i => Y 93 (20 + i)) ⟨q0, q1, q2⟩ hb2
            clear q1 q2
            iterate 30 (all_goals (first
              | (simp only [am_st2, am_st1, am_set, am_cut, am_get])
              | (refine And.intro (by omega) ?_)
              | (refine And.intro (fun hb => absurd hb (by omega)) (fun hb => ?_))
              | (refine And.intro (fun hb => ?_) (fun hb => absurd hb (by omega)))
              | (refine And.intro (fun hb => ?_) (fun hb => ?_))
              | (intro hb)
              | (conv => whnf)))
            refine hK (s_M_sizeOf (p := 20) (by omega) (by omega) (by omega) hi2 (by omega) ?_)
            rw [es]
            iterate 30 (all_goals (first
              | (simp only [am_st2, am_st1, am_set, am_cut, am_get])
              | (refine And.intro (by omega) ?_)
              | (refine And.intro (by decide) ?_)
              | (refine And.intro (fun hb => absurd hb (by omega)) (fun hb => ?_))
              | (refine And.intro (fun hb => ?_) (fun hb => absurd hb (by omega)))
              | (refine And.intro (fun hb => ?_) (fun hb => ?_))
              | (intro hb)
              | (simp only [fe, e86, et])
              | (conv => whnf)))
            exact hS nv
      have l1 : ∀ (j1 : Nat) (b v : Int), 0 ≤ b → b ≤ b1 → b1 - b < j1 → v = (pd f1 (fun x => Y 93 (0 + x)) n b.toNat) % p → am_Sem G (d + 3) 128 V T Q 35 [some (vR 86), some (vI n), some (vJ su), none, some (vI 1), some (vJ v), none, some (vI b)] [] Y (am_RF sh) T 0 0 := by
        intro j1
        induction j1 with
        | zero => intro b v z0 z1 z2; omega
        | succ j1 ih2 =>
          intro b v z0 z1 z2 ev
          have vr : 0 ≤ v ∧ v < p := by rw [ev]; exact m_modr (by omega)
          by_cases hb : b = b1
          · rw [hb] at ev
            have nv := l2 (b2 + 1).toNat 0 v (by omega) (by omega) (by omega) (by
              show v = (pd f1 (fun x => Y 93 (0 + x)) n b1.toNat * 1) % p
              rw [Int.mul_one]; exact ev)
            clear l2 nx1 nx0 ih2 ev
            refine am_run 400 mt_M_mixed ok_M_mixed (fun K S hK hS => ?_)
            iterate 30 (all_goals (first
              | (simp only [am_st2, am_st1, am_set, am_cut, am_get])
              | (refine And.intro (by omega) ?_)
              | (refine And.intro (fun hb => absurd hb (by omega)) (fun hb => ?_))
              | (refine And.intro (fun hb => ?_) (fun hb => absurd hb (by omega)))
              | (refine And.intro (fun hb => ?_) (fun hb => ?_))
              | (intro hb)
              | (conv => whnf)))
            refine hK (s_M_blocks (p := 0) (by omega) (by omega) (by omega) hr1 (fun r' q0 q1 q2 => ?_))
            have er : r' = b := by rw [hb]; exact m_nb_uniq (g := fun i => Y 93 (0 + i)) ⟨q0, q1, q2⟩ hb1
            clear q1 q2
            iterate 30 (all_goals (first
              | (simp only [am_st2, am_st1, am_set, am_cut, am_get])
              | (refine And.intro (by omega) ?_)
              | (refine And.intro (fun hb => absurd hb (by omega)) (fun hb => ?_))
              | (refine And.intro (fun hb => ?_) (fun hb => absurd hb (by omega)))
              | (refine And.intro (fun hb => ?_) (fun hb => ?_))
              | (intro hb)
              | (conv => whnf)))
            exact hS nv
          · obtain ⟨u, u1, u2, u3⟩ := m_nb_met rgY hb1 z0 (by omega)
            have rp := m_cg_pos (g := fun i => Y 93 (0 + i)) u1 u2 u3
            have rc := m_cg_le (fun i => Y 93 (0 + i)) b n.toNat
            have es := m_cnt_cg Y 0 b n.toNat
            have nv := ih2 (b + 1) ((v * f1 (m_cg (fun i => Y 93 (0 + i)) b n.toNat)) % p) (by omega) (by omega) (by omega) (by
              rw [pd_S _ _ _ _ z0, ev, y_mmod (B := 0)])
            obtain ⟨C, hC⟩ : ∃ C, C = m_cg (fun i => Y 93 (0 + i)) b n.toNat := ⟨_, rfl⟩
            rw [← hC] at nv rp rc es
            have fr := (hc C rp (by omega)).1
            rw [E1] at fr
            have fe := ec1 C
            have rm := m_mulr vr.1 vr.2 fr.1 fr.2 hp.2
            have et : Int.tmod (v * f1 C) p = (v * f1 C) % p := m_tm rm.1
            clear hC u3 ih2 nx1 nx0 ev l2
            refine am_run 400 mt_M_mixed ok_M_mixed (fun K S hK hS => ?_)
            iterate 30 (all_goals (first
              | (simp only [am_st2, am_st1, am_set, am_cut, am_get])
              | (refine And.intro (by omega) ?_)
              | (refine And.intro (fun hb => absurd hb (by omega)) (fun hb => ?_))
              | (refine And.intro (fun hb => ?_) (fun hb => absurd hb (by omega)))
              | (refine And.intro (fun hb => ?_) (fun hb => ?_))
              | (intro hb)
              | (conv => whnf)))
            refine hK (s_M_blocks (p := 0) (by omega) (by omega) (by omega) hr1 (fun r' q0 q1 q2 => ?_))
            have er : r' = b1 := m_nb_uniq (g := fun i => Y 93 (0 + i)) ⟨q0, q1, q2⟩ hb1
            clear q1 q2
            iterate 30 (all_goals (first
              | (simp only [am_st2, am_st1, am_set, am_cut, am_get])
              | (refine And.intro (by omega) ?_)
              | (refine And.intro (fun hb => absurd hb (by omega)) (fun hb => ?_))
              | (refine And.intro (fun hb => ?_) (fun hb => absurd hb (by omega)))
              | (refine And.intro (fun hb => ?_) (fun hb => ?_))
              | (intro hb)
              | (conv => whnf)))
            refine hK (s_M_sizeOf (p := 0) (by omega) (by omega) (by omega) hi1 (by omega) ?_)
            rw [es]
            iterate 30 (all_goals (first
              | (simp only [am_st2, am_st1, am_set, am_cut, am_get])
              | (refine And.intro (by omega) ?_)
              | (refine And.intro (by decide) ?_)
              | (refine And.intro (fun hb => absurd hb (by omega)) (fun hb => ?_))
              | (refine And.intro (fun hb => ?_) (fun hb => absurd hb (by omega)))
              | (refine And.intro (fun hb => ?_) (fun hb => ?_))
              | (intro hb)
              | (simp only [fe, e86, et])
              | (conv => whnf)))
            exact hS nv
      have nv := l1 (b1 + 1).toNat 0 1 (by omega) (by omega) (by omega) (by
        show 1 = (1 : Int) % p
        rw [Int.emod_eq_of_lt (by omega) hp.1])
      clear l1 l2 nx1 nx0
      iterate 30 (all_goals (first
        | (simp only [am_st2, am_st1, am_set, am_cut, am_get])
        | (refine And.intro (by omega) ?_)
        | (refine And.intro (fun hb => absurd hb (by omega)) (fun hb => ?_))
        | (refine And.intro (fun hb => ?_) (fun hb => absurd hb (by omega)))
        | (refine And.intro (fun hb => ?_) (fun hb => ?_))
        | (intro hb)
        | (conv => whnf)))
      exact hS nv
  refine am_enter mt_M_mixed ok_M_mixed rfl ?_
  refine am_run 400 mt_M_mixed ok_M_mixed (fun K S hK hS => ?_)
  iterate 30 (all_goals (first
    | (simp only [am_st2, am_st1, am_set, am_cut, am_get])
    | (refine And.intro (by omega) ?_)
    | (refine And.intro (fun hb => absurd hb (by omega)) (fun hb => ?_))
    | (refine And.intro (fun hb => ?_) (fun hb => absurd hb (by omega)))
    | (refine And.intro (fun hb => ?_) (fun hb => ?_))
    | (intro hb)
    | (conv => whnf)))
  refine hK (s_M_first (by omega) (by omega) (by omega) (fun W w1 w2 w3 => ?_))
  have nv := fun x5 x7 => loop (k_ways n.toNat 0 + 1).toNat 0 0 x5 x7 W (by have := k_ways_pos n.toNat 0; omega) (fun a z1 _ => w1 a z1) (o_is_zero hn.1 (fun k a b => w3 k a b)) (by
    show 0 = (0 : Int) % p
    rw [Int.zero_emod])
  clear loop hQ
  iterate 30 (all_goals (first
    | (simp only [am_st2, am_st1, am_set, am_cut, am_get])
    | (refine And.intro (by omega) ?_)
    | (refine And.intro (fun hb => absurd hb (by omega)) (fun hb => ?_))
    | (refine And.intro (fun hb => ?_) (fun hb => absurd hb (by omega)))
    | (refine And.intro (fun hb => ?_) (fun hb => ?_))
    | (intro hb)
    | (conv => whnf)))
  exact hS (nv _ _)
