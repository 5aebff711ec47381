/-! the complement turns the free ones about -/
theorem o_num {E : Int → Int → Prop} : ∀ n : Nat, (∀ x : Int, 0 ≤ x → x < n → E x x) → (∀ x y : Int, 0 ≤ x → x < n → 0 ≤ y → y < n → E x y → E y x) → (∀ x y z : Int, 0 ≤ x → x < n → 0 ≤ y → y < n → 0 ≤ z → z < n → E x y → E y z → E x z) → ∃ (h : Int → Int) (b : Int), m_rgs h n ∧ m_nb h n b ∧ ∀ i j : Int, 0 ≤ i → i < n → 0 ≤ j → j < n → (h i = h j ↔ E i j)
  | 0, _, _, _ => ⟨fun _ => 0, 0, fun k a b => by omega, ⟨Int.le_refl _, fun i a b => by omega, Or.inl rfl⟩, fun i j a b => by omega⟩
  | n + 1, hr, hs, ht => by
    obtain ⟨h, b, h1, h2, h3⟩ := o_num (E := E) n (fun x a b => hr x a (by omega)) (fun x y a b c e => hs x y a (by omega) c (by omega)) (fun x y z a b c e f i => ht x y z a (by omega) c (by omega) f (by omega))
    have key : ∀ v : Int, 0 ≤ v → (v = 0 ∨ ∃ j : Int, 0 ≤ j ∧ j < n ∧ h j = v - 1) → m_rgs (o_upd h n v) (n + 1 : Nat) := fun v v0 v1 k a b => by
      unfold o_upd
      by_cases q : k = n
      · rw [if_pos q]
        refine ⟨v0, v1.elim Or.inl (fun ⟨j, j0, j1, j2⟩ => Or.inr ⟨j, j0, by omega, by rw [if_neg (by omega)]; exact j2⟩)⟩
      · rw [if_neg q]
        obtain ⟨a1, a2⟩ := h1 k a (by omega)
        exact ⟨a1, a2.elim Or.inl (fun ⟨j, j0, j1, j2⟩ => Or.inr ⟨j, j0, j1, by rw [if_neg (by omega)]; exact j2⟩)⟩
    have lo : ∀ (v i : Int), i < n → o_upd h n v i = h i := fun v i a => by unfold o_upd; rw [if_neg (by omega)]
    have hi : ∀ v, o_upd h n v n = v := fun v => by unfold o_upd; rw [if_pos rfl]
    have rel : ∀ v : Int, (∀ i : Int, 0 ≤ i → i < n → (h i = v ↔ E i n)) → ∀ i j : Int, 0 ≤ i → i < (n + 1 : Nat) → 0 ≤ j → j < (n + 1 : Nat) → (o_upd h n v i = o_upd h n v j ↔ E i j) := fun v q i j a b c e => by
      by_cases z : i = n
      · by_cases z2 : j = n
        · rw [z, z2]
          exact ⟨fun _ => hr n (by omega) (by omega), fun _ => rfl⟩
        · rw [z, hi, lo _ j (by omega)]
          have := q j c (by omega)
          exact ⟨fun w => hs j n c e (by omega) (by omega) (this.mp w.symm), fun w => (this.mpr (hs n j (by omega) (by omega) c e w)).symm⟩
      · by_cases z2 : j = n
        · rw [z2, hi, lo _ i (by omega)]
          exact q i a (by omega)
        · rw [lo _ i (by omega), lo _ j (by omega)]
          exact h3 i j a (by omega) c (by omega)
    by_cases q : ∃ j : Int, 0 ≤ j ∧ j < n ∧ E j n
    · obtain ⟨j, j0, j1, j2⟩ := q
      obtain ⟨a1, a2⟩ := h1 j j0 j1
      refine ⟨o_upd h n (h j), b, key _ a1 (a2.elim Or.inl (fun ⟨i, i0, i1, i2⟩ => Or.inr ⟨i, i0, by omega, i2⟩)), ⟨h2.1, fun i a c => ?_, ?_⟩, rel _ (fun i a c => ?_)⟩
      · by_cases z : i = n
        · rw [z, hi]; exact h2.2.1 j j0 j1
        · rw [lo _ i (by omega)]; exact h2.2.1 i a (by omega)
      · rcases h2.2.2 with e | ⟨i, i0, i1, i2⟩
        · exact Or.inl e
        · exact Or.inr ⟨i, i0, by omega, by rw [lo _ i i1]; exact i2⟩
      · rw [h3 i j a c j0 j1]
        exact ⟨fun w => ht i j n a (by omega) j0 (by omega) (by omega) (by omega) w j2, fun w => ht i n j a (by omega) (by omega) (by omega) j0 (by omega) w (hs j n j0 (by omega) (by omega) (by omega) j2)⟩
    · refine ⟨o_upd h n b, b + 1, key _ h2.1 ?_, ⟨by have := h2.1; omega, fun i a c => ?_, Or.inr ⟨n, by omega, by omega, by rw [hi]⟩⟩, rel _ (fun i a c => ?_)⟩
      · rcases h2.2.2 with e | ⟨i, i0, i1, i2⟩
        · exact Or.inl e
        · exact Or.inr ⟨i, i0, i1, by omega⟩
      · by_cases z : i = n
        · rw [z, hi]; omega
        · rw [lo _ i (by omega)]; have := h2.2.1 i a (by omega); omega
      · have := h2.2.1 i a c
        exact ⟨fun w => by omega, fun w => absurd ⟨i, a, c, w⟩ q⟩
/-- K is the complement's row -/
def o_K (g K : Int → Int) (n : Int) : Prop := m_rgs K n ∧ ∀ i j, 0 ≤ i → i < n → 0 ≤ j → j < n → (K i = K j ↔ m_kr g n i j)
theorem o_K_ex (g : Int → Int) {n : Int} (hn : 0 ≤ n) : ∃ K, o_K g K n := by
  obtain ⟨h, b, h1, h2, h3⟩ := o_num (E := m_kr g n) n.toNat (fun x _ _ => m_kr_refl g n x) (fun x y _ _ _ _ => m_kr_symm) (fun x y z a b c d e f => m_kr_trans (by omega) (by omega) (by omega))
  rw [show ((n.toNat : Nat) : Int) = n by omega] at h1 h3
  exact ⟨h, h1, h3⟩
theorem o_K_free {g K : Int → Int} {n : Int} (h : o_K g K n) : ¬ m_Cr K n := by
  rintro ⟨a, b, c, e, a1, a2, a3, a4, a5, q1, q2, q3⟩
  have x := (h.2 a c a1 (by omega) (by omega) (by omega)).mp q3
  have y := (h.2 b e (by omega) (by omega) (by omega) a5).mp q1
  have z := (h.2 b c (by omega) (by omega) (by omega) (by omega)).mpr (m_kr_free a2 a3 a4 x y)
  exact q2 (z.symm.trans q1)
theorem o_K_fin {g s Kg Ks : Int → Int} {n : Int} (hs : ¬ m_Cr s n) (h : o_K g Kg n) (h' : o_K s Ks n) : m_fin g s n ↔ m_fin Ks Kg n := by
  constructor
  · intro q x y a b c e
    refine (h.2 x y a (by omega) (by omega) c).mpr (m_kr_fine ⟨a, by omega⟩ ⟨by omega, c⟩ (fun u v u0 u1 v0 v1 z => m_fin_sym q ⟨u0, u1⟩ ⟨v0, v1⟩ z) ((h'.2 x y a (by omega) (by omega) c).mp e))
  · intro q x y a b c e
    refine jn_least0 hs (y - x).toNat x y (by omega) a b c (fun u v u1 u2 v1 v2 v3 k => ?_)
    have e2 := m_fin_sym q ⟨by omega, by omega⟩ ⟨v1, v2⟩ ((h'.2 u v (by omega) (by omega) v1 v2).mpr k)
    rcases (h.2 u v (by omega) (by omega) v1 v2).mp e2 with ⟨z1, z2⟩ | ⟨z1, z2⟩
    · exact z2 y x (by omega) (by omega) a (by omega) (by omega) e.symm
    · exact z2 x y (by omega) (by omega) (by omega) c (by omega) e
noncomputable def o_kap (n : Int) (r : List Int) : List Int := @dite (List Int) (0 ≤ n) (Classical.propDecidable _) (fun h => o_tl (Classical.choose (o_K_ex (o_fn r) h)) 0 n.toNat) (fun _ => [])
theorem o_tl_fn (g : Int → Int) {n i : Int} (h0 : 0 ≤ i) (h1 : i < n) : o_fn (o_tl g 0 n.toNat) i = g i := by
  unfold o_fn
  rw [o_tl_get g n.toNat 0 i.toNat (by omega), show (0 : Int) + (i.toNat : Int) = i by omega]
theorem o_K_eq {g K K' : Int → Int} {n : Int} (h : o_K g K n) (e : ∀ i, 0 ≤ i → i < n → K i = K' i) : o_K g K' n := ⟨m_rgs_eq h.1 e, fun i j a b c f => by rw [← e i a b, ← e j c f]; exact h.2 i j a b c f⟩
theorem o_kap_K {n : Int} (hn : 0 ≤ n) (r : List Int) : o_K (o_fn r) (o_fn (o_kap n r)) n := by
  have e : o_kap n r = o_tl (Classical.choose (o_K_ex (o_fn r) hn)) 0 n.toNat := by unfold o_kap; rw [dif_pos hn]
  have h := Classical.choose_spec (o_K_ex (o_fn r) hn)
  rw [e]
  exact o_K_eq h (fun i a b => (o_tl_fn _ a b).symm)
theorem o_kap_len {n : Int} (hn : 0 ≤ n) (r : List Int) : (o_kap n r).length = n.toNat := by
  have e : o_kap n r = o_tl (Classical.choose (o_K_ex (o_fn r) hn)) 0 n.toNat := by unfold o_kap; rw [dif_pos hn]
  rw [e, o_tl_len]
theorem o_L_mem {n : Int} {r : List Int} (hn : 0 ≤ n) : r ∈ o_L n ↔ r.length = n.toNat ∧ m_rgs (o_fn r) n ∧ ¬ m_Cr (o_fn r) n := by
  constructor
  · intro h
    have hl := o_cp_len _ _ _ _ h
    have := o_snd n.toNat (o_fn r) 0 [] 0 (o_St0 _) (by rw [o_fn_tl hl]; exact h)
    rw [show (0 : Int) + (n.toNat : Int) = n by omega] at this
    exact ⟨hl, this⟩
  · rintro ⟨hl, h1, h2⟩
    have := o_mem n.toNat (o_fn r) 0 [] 0 (o_St0 _) (by rw [show (0 : Int) + (n.toNat : Int) = n by omega]; exact h1) (by rw [show (0 : Int) + (n.toNat : Int) = n by omega]; exact h2)
    rw [o_fn_tl hl] at this
    exact this
theorem o_fn_inj {r s : List Int} {n : Int} (hr : r.length = n.toNat) (hs : s.length = n.toNat) (e : ∀ i, 0 ≤ i → i < n → o_fn r i = o_fn s i) : r = s := by
  rw [← o_fn_tl hr, ← o_fn_tl hs]
  exact o_tl_same n.toNat 0 (fun j a b => e j a (by omega))
theorem o_kap_perm {n : Int} (hn : 0 ≤ n) : ((o_L n).map (o_kap n)).Perm (o_L n) := by
  refine o_perm _ _ ?_ (fun x hx => ?_) (by rw [List.length_map]; exact Nat.le_refl _)
  · show List.Pairwise (· ≠ ·) ((o_L n).map (o_kap n))
    rw [List.pairwise_map]
    have hs : (o_L n).Pairwise o_ll := o_sorted n.toNat [] 0 (List.pairwise_singleton _ _)
    refine List.Pairwise.imp_of_mem ?_ hs
    intro r s hr hs' hrs e
    obtain ⟨r1, r2, r3⟩ := (o_L_mem hn).mp hr
    obtain ⟨s1, s2, s3⟩ := (o_L_mem hn).mp hs'
    have k1 := o_kap_K hn r
    have k2 := o_kap_K hn s
    rw [← e] at k2
    have f1 : m_fin (o_fn r) (o_fn s) n := (o_K_fin s3 k1 k2).mpr (fun x y _ _ _ z => z)
    have f2 : m_fin (o_fn s) (o_fn r) n := (o_K_fin r3 k2 k1).mpr (fun x y _ _ _ z => z)
    have := o_fn_inj r1 s1 (m_rgs_same r2 s2 (fun i j a b c d => ⟨m_fin_sym f1 ⟨a, b⟩ ⟨c, d⟩, m_fin_sym f2 ⟨a, b⟩ ⟨c, d⟩⟩))
    rw [this] at hrs
    exact o_ll_irr _ hrs
  · rw [List.mem_map] at hx
    obtain ⟨r, hr, rfl⟩ := hx
    have k1 := o_kap_K hn r
    exact (o_L_mem hn).mpr ⟨o_kap_len hn r, k1.1, o_K_free k1⟩
theorem k_ways_lf {τ : Int → Int} {n B : Int} (hn : 0 ≤ n ∧ n ≤ 10) : k_ways (o_lf τ n B 0) 0 = k_cat (m_cg τ B n.toNat) := by
  have h := m_cg_le τ B n.toNat
  have h0 : m_cg τ B (0 : Int).toNat = 0 := rfl
  rw [← k_ways_cat h.1 (by omega)]
  congr 1
  unfold o_lf
  rw [h0]
  omega
theorem o_pr_pd (τ : Int → Int) (n : Int) (F : Int → Int) : ∀ b : Nat, o_pr (fun B => F (m_cg τ B n.toNat)) b = pd F τ n b
  | 0 => rfl
  | b + 1 => by rw [o_pr, pd, o_pr_pd τ n F b]
/-- how many free ones lie over g -/
theorem o_over {g K : Int → Int} {n : Int} {nb : Int} (hn : 0 ≤ n ∧ n ≤ 10) (hK : o_K g K n) (hb : m_nb K n nb) : o_sum (fun r => o_ind (m_fin g (o_fn r) n)) (o_L n) = pd k_cat K n nb.toNat := by
  have e1 : o_sum (fun r => o_ind (m_fin g (o_fn r) n)) (o_L n) = o_sum (fun r => o_ind (m_fin (o_fn (o_kap n r)) K n)) (o_L n) := o_sum_eq _ (fun r hr => o_ind_iff (o_K_fin ((o_L_mem hn.1).mp hr).2.2 hK (o_kap_K hn.1 r)))
  have e2 := o_sum_map (fun r => o_ind (m_fin (o_fn r) K n)) (o_kap n) (o_L n)
  have e3 := o_sum_perm (φ := fun r => o_ind (m_fin (o_fn r) K n)) (o_kap_perm hn.1)
  have e4 := o_low (τ := K) (n := n) (nb := nb.toNat) (o_K_free hK) (fun j a b => by
    have := hb.2.1 j a b
    have := (hK.1 j a b).1
    omega) n.toNat (fun _ => 0) 0 [] 0 (fun _ => 0) (Int.le_refl _) (by omega) (fun j a b => by omega) (fun t h => absurd h (Nat.not_lt_zero _)) (fun t t' a b => absurd b (Nat.not_lt_zero _)) (fun x y a b c => by omega)
  rw [e1, ← e2, e3, ← o_pr_pd]
  rw [o_sum_eq (ψ := fun r => o_ind (m_fin (o_ext (fun _ => 0) 0 r) K n)) (o_L n) (fun r _ => o_ind_iff ⟨fun q => o_fin_eq (fun i a b => by unfold o_ext o_fn; rw [if_neg (by omega), show i - 0 = i by omega]) (fun _ _ _ => rfl) q, fun q => o_fin_eq (fun i a b => by unfold o_ext o_fn; rw [if_neg (by omega), show i - 0 = i by omega]) (fun _ _ _ => rfl) q⟩)]
  rw [e4]
  exact o_pr_eq _ (fun B _ _ => k_ways_lf hn)
