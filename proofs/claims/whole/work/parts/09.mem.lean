/-! cells that a change leaves alone; helpers of the frame -/
theorem am_row_of {b n o i k : Nat} (h : am_lay b = (k, n, o, i)) (hk : k = 6 ∨ k = 7) : b = o + 1 + i ∧ (am_lay o).1 = k - 3 ∧ (am_lay o).2.2.1 = n ∧ i < (am_lay o).2.1 := by
  have ha : b < 107 := by
    rcases Nat.lt_or_ge b 107 with q | q
    · exact q
    · rcases am_lay_hi q with r | r <;> rw [h] at r <;> cases r <;> simp at hk
  have h1 := List.all_eq_true.mp (List.all_eq_true.mp am_grid b (List.mem_range.mpr ha)) 0 (List.mem_range.mpr (by omega))
  rw [h] at h1
  rcases hk with rfl | rfl <;> simpa using h1
theorem am_e_off {G : am_G} {V V' : am_V} {R R' : am_T} {a b : Nat} (hV : ∀ x, x ≠ a → V' x = V x) (hR : ∀ x, x ≠ a → R' x = R x) (ha : (am_lay a).1 ≠ 3 ∧ (am_lay a).1 ≠ 4) (hb : b ≠ a) : am_e G V' R' b = am_e G V R b := by
  have e1 := hV b hb
  have e2 := hR b hb
  have key : ∀ k n o i, am_lay b = (k, n, o, i) → (k = 6 ∨ k = 7) → V' o = V o := by
    intro k n o i h hk
    apply hV
    intro q
    have h1 := (am_row_of h hk).2.1
    rw [q] at h1
    rcases hk with rfl | rfl
    · exact ha.1 h1
    · exact ha.2 h1
  have fe : ∀ c, am_fv G V' R' c b = am_fv G V R c b := by
    intro c
    funext j
    unfold am_fv
    rw [e1, e2]
  unfold am_e
  split <;> rename_i h
  · rw [e1]
  · rw [e1]
  · rw [e1]
  · rfl
  · rfl
  · rw [e2]
  · rw [key _ _ _ _ h (Or.inl rfl)]
  · rw [key _ _ _ _ h (Or.inr rfl)]
  · rw [fe]
theorem am_up_ne {V : am_V} {a : Nat} {k x : Int} {b : Nat} (h : b ≠ a) : am_up V a k x b = V b := by funext j; unfold am_up; rw [if_neg h]
theorem am_upR_ne {R : am_T} {a : Nat} {k : Int} {x : Option Nat} {b : Nat} (h : b ≠ a) : am_upR R a k x b = R b := by funext j; unfold am_upR; rw [if_neg h]
theorem am_up_at {V : am_V} {a : Nat} {k x j : Int} : am_up V a k x a j = if j = k then x else V a j := by unfold am_up; rw [if_pos rfl]
theorem am_upR_at {R : am_T} {a : Nat} {k : Int} {x : Option Nat} {j : Int} : am_upR R a k x a j = if j = k then x else R a j := by unfold am_upR; rw [if_pos rfl]
theorem am_zero_ne {V : am_V} {a b : Nat} (h : b ≠ a) : am_zero V a b = V b := by funext j; unfold am_zero; rw [if_neg h]
theorem am_zeroR_ne {R : am_T} {a b : Nat} (h : b ≠ a) : am_zeroR R a b = R b := by funext j; unfold am_zeroR; rw [if_neg h]
theorem am_zero_at {V : am_V} {a : Nat} {j : Int} : am_zero V a a j = 0 := by unfold am_zero; rw [if_pos rfl]
theorem am_zeroR_at {R : am_T} {a : Nat} {j : Int} : am_zeroR R a a j = none := by unfold am_zeroR; rw [if_pos rfl]
theorem am_upd_i {V : am_V} {a : Nat} {i x : Int} (h0 : 0 ≤ i) : (fun j : Nat => Int32.ofInt (am_up V a i x a j)) = upd (fun j : Nat => Int32.ofInt (V a j)) i.toNat (Int32.ofInt x) := by
  funext j
  rw [am_up_at]
  by_cases h : j = i.toNat
  · subst h
    rw [if_pos (by omega), pk_us]
  · rw [if_neg (by omega), pk_un h]
theorem am_upd_l {V : am_V} {a : Nat} {i x : Int} (h0 : 0 ≤ i) : (fun j : Nat => Int64.ofInt (am_up V a i x a j)) = vp_updL (fun j : Nat => Int64.ofInt (V a j)) i.toNat (Int64.ofInt x) := by
  funext j
  rw [am_up_at]
  by_cases h : j = i.toNat
  · subst h
    rw [if_pos (by omega), pk_uLs]
  · rw [if_neg (by omega), pk_uLn h]
/-- one row of a table is changed -/
theorem am_e_row {G : am_G} {V : am_V} {R : am_T} {a q w : Nat} {i x : Int} (hw : w ≤ 64) (hlw : (am_lay a).2.2.1 = w) (hr : (am_lay (a + 1 + q)).2.2 = (a, q)) (h0 : 0 ≤ i) (h1 : i < (w : Int)) {b : Nat} (hb : b ≠ a + 1 + q) (hk : (am_lay a).1 = 3 ∨ (am_lay a).1 = 4) : am_e G (am_up V a (64 * (q : Int) + i) x) R b = am_e G V R b := by
  by_cases hba : b = a
  · subst hba
    unfold am_e
    split <;> rename_i h <;> rw [h] at hk <;> simp at hk <;> first | rfl | (rcases hk with hk | hk <;> simp_all)
  · have e1 : am_up V a (64 * (q : Int) + i) x b = V b := am_up_ne hba
    have key : ∀ k n o j, am_lay b = (k, n, o, j) → (k = 6 ∨ k = 7) → ∀ z : Nat, z < n → am_up V a (64 * (q : Int) + i) x o (64 * (j : Int) + z) = V o (64 * (j : Int) + z) := by
      intro k n o j h hk z hz
      obtain ⟨h1', -, h3, -⟩ := am_row_of h hk
      by_cases ho : o = a
      · subst ho
        rw [am_up_at, if_neg]
        intro c
        have : j ≠ q := fun e => hb (by rw [h1', e])
        have : n = w := by rw [← h3, hlw]
        omega
      · rw [am_up_ne ho]
    have fe : ∀ c, am_fv G (am_up V a (64 * (q : Int) + i) x) R c b = am_fv G V R c b := by
      intro c
      funext j
      unfold am_fv
      rw [e1]
    unfold am_e
    split <;> rename_i h
    · rw [e1]
    · rw [e1]
    · rw [e1]
    · rfl
    · rfl
    · rfl
    · have := key _ _ _ _ h (Or.inl rfl)
      congr 5
      funext z
      split
      · rw [this z (by assumption)]
      · rfl
    · have := key _ _ _ _ h (Or.inr rfl)
      congr 4
      funext z
      split
      · rw [this z (by assumption)]
      · rfl
    · rw [fe]
section FR
variable {G : am_G} {s : State} {V0 : am_V} {T0 nL Bc Bs : Nat} {ls : am_L} {st : List AV} {V : am_V} {R : am_T} {T cc cs : Nat} {la : Array Slot} {H : Heap} {locs : List Loc}
theorem am_fr.sz (h : am_fr G s V0 T0 nL Bc Bs ls st V R T cc cs la H locs) : H.size = am_G.b G + (T - 3) := h.1
theorem am_fr.T3 (h : am_fr G s V0 T0 nL Bc Bs ls st V R T cc cs la H locs) : 3 ≤ T := Nat.le_trans h.2.1 h.2.2.1
theorem am_fr.oP (h : am_fr G s V0 T0 nL Bc Bs ls st V R T cc cs la H locs) : va_P (am_G.D G) am_cls (am_ws G V R T) H := h.2.2.2.1
theorem am_fr.oS (h : am_fr G s V0 T0 nL Bc Bs ls st V R T cc cs la H locs) : va_S (fun q => am_G.b G ≤ q) s.heap H locs := h.2.2.2.2.1
theorem am_fr.oR (h : am_fr G s V0 T0 nL Bc Bs ls st V R T cc cs la H locs) : am_okR R T := h.2.2.2.2.2.1
theorem am_fr.oV (h : am_fr G s V0 T0 nL Bc Bs ls st V R T cc cs la H locs) : ∀ e, e < 3 → V e = V0 e := h.2.2.2.2.2.2.1
theorem am_fr.oL (h : am_fr G s V0 T0 nL Bc Bs ls st V R T cc cs la H locs) : am_loc G nL T ls la := h.2.2.2.2.2.2.2.1
theorem am_fr.ok (h : am_fr G s V0 T0 nL Bc Bs ls st V R T cc cs la H locs) : ∀ v ∈ st, am_okv T v := h.2.2.2.2.2.2.2.2.1
theorem am_fr.oB (h : am_fr G s V0 T0 nL Bc Bs ls st V R T cc cs la H locs) : cc ≤ Bc ∧ cs ≤ Bs := h.2.2.2.2.2.2.2.2.2
theorem am_fr.stk (h : am_fr G s V0 T0 nL Bc Bs ls st V R T cc cs la H locs) {st' : List AV} (h' : ∀ v ∈ st', am_okv T v) : am_fr G s V0 T0 nL Bc Bs ls st' V R T cc cs la H locs := ⟨h.1, h.2.1, h.2.2.1, h.oP, h.oS, h.oR, h.oV, h.oL, h', h.oB⟩
theorem am_fr.loc (h : am_fr G s V0 T0 nL Bc Bs ls st V R T cc cs la H locs) {ls' : am_L} {la' : Array Slot} {st' : List AV} (hl : am_loc G nL T ls' la') (h' : ∀ v ∈ st', am_okv T v) : am_fr G s V0 T0 nL Bc Bs ls' st' V R T cc cs la' H locs := ⟨h.1, h.2.1, h.2.2.1, h.oP, h.oS, h.oR, h.oV, hl, h', h.oB⟩
theorem am_fr.pop {v : AV} (h : am_fr G s V0 T0 nL Bc Bs ls (v :: st) V R T cc cs la H locs) : am_fr G s V0 T0 nL Bc Bs ls st V R T cc cs la H locs := h.stk (fun w hw => h.ok w (List.mem_cons_of_mem _ hw))
theorem am_fr.push {v : AV} (h : am_fr G s V0 T0 nL Bc Bs ls st V R T cc cs la H locs) (hv : am_okv T v) : am_fr G s V0 T0 nL Bc Bs ls (v :: st) V R T cc cs la H locs := h.stk (fun w hw => (List.mem_cons.mp hw).elim (fun e => e ▸ hv) (h.ok w))
/-- memory written, nothing made -/
theorem am_fr.mem (h : am_fr G s V0 T0 nL Bc Bs ls st V R T cc cs la H locs) {V' : am_V} {R' : am_T} {H' : Heap} {locs' : List Loc} (hs : H'.size = H.size) (hP : va_P (am_G.D G) am_cls (am_ws G V' R' T) H') (hS : va_S (fun q => am_G.b G ≤ q) s.heap H' locs') (hR : am_okR R' T) (hV : ∀ e, e < 3 → V' e = V e) : am_fr G s V0 T0 nL Bc Bs ls st V' R' T cc cs la H' locs' := ⟨hs.trans h.1, h.2.1, h.2.2.1, hP, hS, hR, fun e he => (hV e he).trans (h.oV e he), h.oL, h.ok, h.oB⟩
end FR
def am_gw : List Jvm.Cond := lw_tbl.filter goodWord
theorem am_gw_of {w : Jvm.Cond} (h : w ∈ lw_tbl) (hg : goodWord w = true) : w ∈ am_gw := List.mem_filter.mpr ⟨h, hg⟩
theorem am_in0 : (u_ws RX0 TX0 3).all (fun w => decide (w ∈ lw_tbl) && goodWord w) = true := by decide +kernel
theorem am_in1 : (u_ws RX1 TX1 2).all (fun w => decide (w ∈ lw_tbl) && goodWord w) = true := by decide +kernel
theorem am_in2 : (u_ws RX2 TX2 2).all (fun w => decide (w ∈ lw_tbl) && goodWord w) = true := by decide +kernel
theorem am_in3 : (u_ws RX3 TX3 5).all (fun w => decide (w ∈ lw_tbl) && goodWord w) = true := by decide +kernel
theorem am_in4 : (u_ws RX4 TX4 18).all (fun w => decide (w ∈ lw_tbl) && goodWord w) = true := by decide +kernel
theorem am_in5 : (u_ws RX5 TX5 24).all (fun w => decide (w ∈ lw_tbl) && goodWord w) = true := by decide +kernel
theorem am_inc : ∀ c, c < 6 → ∀ w ∈ u_ws (am_RR c) (am_TT c) (am_NN c), w ∈ am_gw := by
  have key : ∀ l : List Jvm.Cond, l.all (fun w => decide (w ∈ lw_tbl) && goodWord w) = true → ∀ w ∈ l, w ∈ am_gw := fun l h w hw => by
    have h1 := List.all_eq_true.mp h w hw
    simp only [Bool.and_eq_true, decide_eq_true_eq] at h1
    exact am_gw_of h1.1 h1.2
  intro c hc
  match c, hc with
  | 0, _ => exact key _ am_in0
  | 1, _ => exact key _ am_in1
  | 2, _ => exact key _ am_in2
  | 3, _ => exact key _ am_in3
  | 4, _ => exact key _ am_in4
  | 5, _ => exact key _ am_in5
  | n + 6, h => exact absurd h (by omega)
