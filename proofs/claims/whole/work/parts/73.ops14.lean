/-! ===== the past after a going; go, run, back ===== -/
theorem cmod1 {E K k : Nat} (hE : E < 256) (hK : K ≤ 256) (hk : k + 1 < (if K = 256 then 256 else K + 1)) : ((E + 1) % 256 + 256 - (if K = 256 then 256 else K + 1) + k) % 256 = (E + 256 - K + (k + (if K = 256 then 1 else 0))) % 256 ∧ ¬ (E + 256 - K + (k + (if K = 256 then 1 else 0))) % 256 = E ∧ k + (if K = 256 then 1 else 0) < K := by
  by_cases e : K = 256
  · subst e
    rw [if_pos rfl] at hk
    rw [if_pos rfl, if_pos rfl]
    omega
  · rw [if_neg e] at hk
    rw [if_neg e, if_neg e]
    omega
theorem cmod2 {F K k : Nat} (hF : F < 256) (hK : K ≤ 256) (hk : k + 1 < (if K = 256 then 256 else K + 1)) : ((if K = 256 then (F + 1) % 256 else F) + k) % 256 = (F + (k + (if K = 256 then 1 else 0))) % 256 ∧ ¬ (F + (k + (if K = 256 then 1 else 0))) % 256 = (F + K) % 256 ∧ ((if K = 256 then (F + 1) % 256 else F) + k + 1) % 256 = (F + (k + (if K = 256 then 1 else 0)) + 1) % 256 := by
  by_cases e : K = 256
  · subst e
    rw [if_pos rfl] at hk
    rw [if_pos rfl, if_pos rfl]
    omega
  · rw [if_neg e] at hk
    rw [if_neg e, if_neg e]
    omega
theorem carry_past {P S s K E F : Nat} {co : Int32} {pk sk tk pt nd cl wt gf tf pi hd many has mth steps ph ps pts h' ph' pts' : Nat → Int32} {things pth t' pth' : Nat → Int64} (hN : cNet P S pk sk tk pt nd cl wt gf tf pi hd co) (hW : cNow P pk many things has mth) (hs : s < S) (hK : K ≤ 256) (hE : E < 256) (hF : F < 256)
    (hent : ∀ k, k < K → ∃ s : Nat, s < S ∧ steps ((E + 256 - K + k) % 256) = nI s ∧ ps ((F + k) % 256) = nI s ∧
      cNow P pk (fun p => ph (16 * ((F + k) % 256) + p)) (fun p => if co = 0 then things p else pth (16 * ((E + 256 - K + k) % 256) + p)) (fun p => ph (16 * ((F + k) % 256) + p)) (fun i => pts (320 * ((F + k) % 256) + i)) ∧
      ∀ p, p < P → (if k + 1 < K then ph (16 * ((F + k + 1) % 256) + p) else has p) = ph (16 * ((F + k) % 256) + p) + (pt (16 * s + p) - tk (16 * s + p)))
    (a1 : co ≤ 0 → pth' = pth) (a2 : ¬ co ≤ 0 → ∀ q, pth' q = if 16 * E ≤ q ∧ q < 16 * E + 16 then things (q - 16 * E) else pth q)
    (a3 : co = 0 → t' = things)
    (b1 : ∀ q, ph' q = if 16 * ((F + K) % 256) ≤ q ∧ q < 16 * ((F + K) % 256) + 16 then has (q - 16 * ((F + K) % 256)) else ph q) (b2 : ∀ q, pts' q = if 320 * ((F + K) % 256) ≤ q ∧ q < 320 * ((F + K) % 256) + 320 then mth (q - 320 * ((F + K) % 256)) else pts q)
    (hh : ∀ p, p < P → h' p = has p + (pt (16 * s + p) - tk (16 * s + p))) :
    cPast P S pk tk pt co t' h' (nI (if K = 256 then 256 else K + 1)) (nI ((E + 1) % 256)) (upd steps E (nI s)) pth' (nI (if K = 256 then (F + 1) % 256 else F)) (nI (if K = 256 then 256 else K + 1)) ph' (upd ps ((F + K) % 256) (nI s)) pts' := by
  have hP16 := hN.1.1
  have pn : ∀ p, p < 16 → ph' (16 * ((F + K) % 256) + p) = has p := fun p hp => by
    rw [b1, if_pos (by omega)]; congr 1; omega
  have po : ∀ x p, x < 256 → ¬ x = (F + K) % 256 → p < 16 → ph' (16 * x + p) = ph (16 * x + p) := fun x p hx hne hp => by
    rw [b1, if_neg (by omega)]
  have po2 : ∀ x i, x < 256 → ¬ x = (F + K) % 256 → i < 320 → pts' (320 * x + i) = pts (320 * x + i) := fun x p hx hne hp => by
    rw [b2, if_neg (by omega)]
  refine ⟨if K = 256 then 256 else K + 1, (E + 1) % 256, if K = 256 then (F + 1) % 256 else F, by split <;> omega, Nat.mod_lt _ (by omega), by split <;> omega, rfl, rfl, rfl, rfl, fun k hk => ?_⟩
  by_cases hl : k + 1 < (if K = 256 then 256 else K + 1)
  · obtain ⟨c1, c2, c3⟩ := cmod1 hE hK hl
    obtain ⟨d1, d2, d3⟩ := cmod2 hF hK hl
    obtain ⟨s0, s1, s2, s3, s4, s5⟩ := hent _ c3
    rw [c1, d1]
    refine ⟨s0, s1, ?_, ?_, ?_, fun p hp => ?_⟩
    · rw [pk_un c2]; exact s2
    · rw [pk_un d2]; exact s3
    · refine cNow_congr s4 (fun p hp => po _ p (Nat.mod_lt _ (by omega)) d2 hp) (fun p hp => ?_) (fun p hp => po _ p (Nat.mod_lt _ (by omega)) d2 hp) (fun i hi => po2 _ i (Nat.mod_lt _ (by omega)) d2 hi)
      by_cases cz : co = 0
      · rw [if_pos cz, if_pos cz, a3 cz]
      · rw [if_neg cz, if_neg cz, a2 (fun q => cz ((co_le hN).mp q)), if_neg]
        have := Nat.mod_lt (E + 256 - K + (k + (if K = 256 then 1 else 0))) (show 256 > 0 by omega)
        omega
    · rw [if_pos hl, d3, po _ p (Nat.mod_lt _ (by omega)) d2 (by omega), ← s5 p hp]
      by_cases hz : k + (if K = 256 then 1 else 0) + 1 < K
      · rw [if_pos hz]
        exact po _ p (Nat.mod_lt _ (by omega)) (by omega) (by omega)
      · rw [if_neg hz, show (F + (k + (if K = 256 then 1 else 0)) + 1) % 256 = (F + K) % 256 by rw [show F + (k + (if K = 256 then 1 else 0)) + 1 = F + K by omega]]
        exact pn p (by omega)
  · have e1 : ((E + 1) % 256 + 256 - (if K = 256 then 256 else K + 1) + k) % 256 = E := by
      by_cases e : K = 256
      · rw [if_pos e] at hk hl ⊢; omega
      · rw [if_neg e] at hk hl ⊢; omega
    have e2 : ((if K = 256 then (F + 1) % 256 else F) + k) % 256 = (F + K) % 256 := by
      by_cases e : K = 256
      · rw [if_pos e] at hk hl ⊢; omega
      · rw [if_neg e] at hk hl ⊢; omega
    rw [e1, e2]
    refine ⟨s, hs, pk_us, pk_us, ?_, fun p hp => ?_⟩
    · refine cNow_congr (cNow_has hW) (fun p hp => pn p hp) (fun p hp => ?_) (fun p hp => pn p hp) (fun i hi => ?_)
      · by_cases cz : co = 0
        · rw [if_pos cz, a3 cz]
        · rw [if_neg cz, a2 (fun q => cz ((co_le hN).mp q)), if_pos (by omega)]
          congr 1; omega
      · rw [b2, if_pos (by omega)]; congr 1; omega
    · rw [if_neg hl, pn p (by omega)]
      exact hh p hp
theorem t_same {P S s : Nat} {co : Int32} {pk sk tk pt nd cl wt gf tf pi hd many m' : Nat → Int32} {things t' : Nat → Int64} (hN : cNet P S pk sk tk pt nd cl wt gf tf pi hd co) (hc : co = 0)
    (x1 : ∀ p, p < P → mvX pk tk pt wt gf s many things m' t' p) (x2 : ∀ p, P ≤ p → m' p = many p ∧ t' p = things p) : t' = things := funext fun p => by
  rcases Nat.lt_or_ge p P with hp | hp
  · rcases x1 p hp with ⟨-, -, -, q⟩ | ⟨-, -, q⟩ | ⟨q, -⟩
    · exact q
    · exact q
    · exact absurd q (co_0 hN hc p hp)
  · exact (x2 p hp).2
/-- both states, but for the net -/
def REL (P S : Nat) (pk tk pt : Nat → Int32) (co g en sz : Int32) (many : Nat → Int32) (things : Nat → Int64) (steps : Nat → Int32) (pth : Nat → Int64) (g2 past first : Int32) (has ph ps pts mth : Nat → Int32) : Prop :=
  g = g2 ∧ cNow P pk many things has mth ∧ cPast P S pk tk pt co things has sz en steps pth first past ph ps pts
/-- a going of both: first the class, then the reference, from any state of its own that is like the class's -/
theorem carry_both {P S s : Nat} {co g en sz : Int32} {pk sk tk pt nd cl wt gf tf pi hd many has mth steps : Nat → Int32} {things pth : Nat → Int64} {g2 past first : Int32} {ph ps pts : Nat → Int32} {post : Int32 → Int32 → Int32 → (Nat → Int32) → (Nat → Int64) → (Nat → Int32) → (Nat → Int64) → Prop} (hN : cNet P S pk sk tk pt nd cl wt gf tf pi hd co) (hr : REL P S pk tk pt co g en sz many things steps pth g2 past first has ph ps pts mth) (hs : s < S) (hM : MAY P pk tk nd cl wt has mth s) (hR : ∀ p, p < P → RM pk tk pt has s p)
    (h : ∀ g' en' sz' m' t' st' pth', (∃ g2' past' first' h' ph' ps' pts' mth', REL P S pk tk pt co g' en' sz' m' t' st' pth' g2' past' first' h' ph' ps' pts' mth') → (∀ (postM : Int32 → Int32 → Int32 → (Nat → Int32) → (Nat → Int32) → (Nat → Int32) → (Nat → Int32) → (Nat → Int32) → Prop) {g2 past first : Int32} {has ph ps pts mth : Nat → Int32}, REL P S pk tk pt co g en sz many things steps pth g2 past first has ph ps pts mth → MAY P pk tk nd cl wt has mth s → (∀ p, p < P → RM pk tk pt has s p) → (∀ g2' past' first' h' ph' ps' pts' mth', REL P S pk tk pt co g' en' sz' m' t' st' pth' g2' past' first' h' ph' ps' pts' mth' → postM g2' past' first' h' ph' ps' pts' mth') → w_X10_goNow g2 past first (nI P) pk gf has ph ps pts pt tk mth wt (nI s) postM) → post g' en' sz' m' t' st' pth') :
    w_X9_carryOut g co (nI P) en sz gf pk pt pi tk tf wt many things steps pth (nI s) post := by
  have hS16 := hN.1.2
  obtain ⟨hg, hW, K, E, F, hK, hE, hF, e1, e2, e3, e4, hent⟩ := hr
  subst e1 e2 e3 e4
  refine carryX hN hW (by omega) hM hR hE hK (fun pth' m' t' a1 a2 x1 x2 => h _ _ _ _ _ _ _ ?_ ?_)
  · obtain ⟨h', mm, y1, y2⟩ := mvM_ex hN hW (by omega) hM hR x1
    obtain ⟨c1, c2⟩ := carry_now hN hW (by omega) hM hR x1 x2 y1 y2
    exact ⟨_, _, _, h', _, _, _, mm, rfl, c1, carry_past hN hW hs hK hE hF hent a1 a2 (fun cz => t_same hN cz x1 x2) (fun _ => rfl) (fun _ => rfl) c2⟩
  intro postM g2 past first has ph ps pts mth hr hM hR hp
  obtain ⟨hg, hW, K2, E2, F, hK2, hE2, hF, e1, e2, e3, e4, hent2⟩ := hr
  have ek : K2 = K := nI_inj (by omega) (by omega) e1.symm
  have ee : E2 = E := nI_inj (by omega) (by omega) e3.symm
  subst ek ee e2 e4
  refine carryM hN hW (by omega) hM hR hF hK (fun ph' pts' h' mm b1 b2 y1 y2 => hp _ _ _ _ _ _ _ _ ?_)
  obtain ⟨c1, c2⟩ := carry_now hN hW (by omega) hM hR x1 x2 y1 y2
  exact ⟨by rw [hg], c1, carry_past hN hW hs hK hE hF hent2 a1 a2 (fun cz => t_same hN cz x1 x2) b1 b2 c2⟩
theorem p_15 : St_15 Inw := by
  intro XI XA XL MI MA ML hI a1
  obtain ⟨P, S, hq, hN, hW, hPa, hH, hg, hF, hT, hb1, hb2, hs⟩ := id hI
  obtain ⟨q9, m0, q10, m1, k5, k27, k29, k24, k16, k4, k31, k10⟩ := id hq
  have hP16 : P ≤ 16 := hN.1.1
  have hS16 : S ≤ 16 := hN.1.2
  have hh := now_rng hP16 hW
  have hno : Inw (va_up (va_up (va_up XI 0 (XI 0)) 16 (XI 16)) 17 (XI 17)) (va_up (va_up XA 20 (XA 20)) 25 (XA 25)) (va_up (va_up XL 1 (XL 1)) 4 (XL 4)) (va_up (va_up (va_up MI 2 (MI 2)) 3 (MI 3)) 4 (MI 4)) (va_up (va_up (va_up (va_up (va_up MA 11 (MA 11)) 21 (MA 21)) 22 (MA 22)) 23 (MA 23)) 30 (MA 30)) ML := by simp only [up_same]; exact hI
  unfold ls_15 w_X9_go w_X10_go
  rw [q9, m0, q10, m1, k5, k27, k29, k16, k4, k31, k24, k10]
  rcases ix3 a1 S (by omega) with h | ⟨s, hs', rfl, h1, h2⟩
  · exact hasStep_no h (y0 (isStep_no h (y0 ⟨rfl, hno⟩)))
  refine hasStep_yes h1 h2 (y1 (goesX_spec hN hW (by omega) (fun d => y1 ?_) (fun d => y0 ?_)))
  · refine over_spec hP16 (by omega) (fun p hp => (hW p (by omega)).1) (fun r => z0 ?_) (fun r => z1 ?_)
    · refine carry_both hN ⟨hg.1, hW, hPa⟩ hs' d.1 r (fun g' en' sz' m' t' st' pth' _ hM => ?_)
      refine isStep_yes h1 h2 (y1 (goesM_spec hP16 hS16 (by omega) hN.2.1 hh (fun _ => y1 ?_) (fun e => absurd d e)))
      refine full_spec hP16 (by omega) (fun _ => z0 ?_) (fun e => absurd r e)
      refine hM _ ⟨hg.1, hW, hPa⟩ d.1 r (fun g2' past' first' h' ph' ps' pts' mth' hr => ⟨rfl, ?_⟩)
      exact ⟨P, S, hq, hN, hr.2.1, hr.2.2, hH, ⟨hr.1, hg.2⟩, hF, hT, hb1, hb2, hs⟩
    · exact isStep_yes h1 h2 (y1 (goesM_spec hP16 hS16 (by omega) hN.2.1 hh (fun _ => y1 (full_spec hP16 (by omega) (fun e => absurd e r) (fun _ => z1 ⟨rfl, hno⟩))) (fun e => absurd d e)))
  · exact isStep_yes h1 h2 (y1 (goesM_spec hP16 hS16 (by omega) hN.2.1 hh (fun e => absurd e d) (fun _ => y0 ⟨rfl, hno⟩)))
theorem goesWhere_spec {P S s : Nat} {pk sk tk pt nd cl wt gf tf pi hd many has mth : Nat → Int32} {things : Nat → Int64} {co u : Int32} {post : Int32 → Prop} (hN : cNet P S pk sk tk pt nd cl wt gf tf pi hd co) (hW : cNow P pk many things has mth) (hs : s < 16) (hu : (u = 1 ∧ URG P S pk sk tk nd cl wt has mth) ∨ (u = 0 ∧ ¬ URG P S pk sk tk nd cl wt has mth)) (h1 : GOES P S pk sk tk nd cl wt has mth s → post 1) (h0 : ¬ GOES P S pk sk tk nd cl wt has mth s → post 0) : w_X5_goesWhere (nI P) cl hd nd pk sk tk wt many things u (nI s) post := by
  rcases hu with ⟨rfl, hu⟩ | ⟨rfl, hu⟩
  · refine ff (by decide) ⟨vp_in_nI hs (by omega), ?_⟩
    rw [nI_cl (n := s) (by omega)]
    by_cases c : sk s = 3
    · exact nt c (allowsNow_spec hN hW hs (fun d => z1 (h1 ⟨d, Or.inl c⟩)) (fun d => z0 (h0 (fun q => d q.1))))
    · exact nf c (h0 (fun q => (q.2.resolve_left c) hu))
  · exact tt rfl (allowsNow_spec hN hW hs (fun d => z1 (h1 ⟨d, Or.inr hu⟩)) (fun d => z0 (h0 (fun q => d q.1))))
/-- the least step that goes, if one goes -/
theorem least_spec {P S : Nat} {pk sk tk pt nd cl wt gf tf pi hd many has mth : Nat → Int32} {things : Nat → Int64} {co : Int32} {post : Int32 → Prop} (hN : cNet P S pk sk tk pt nd cl wt gf tf pi hd co) (hW : cNow P pk many things has mth) (h1 : ∀ s, s < S → GOES P S pk sk tk nd cl wt has mth s → (∀ j, j < s → ¬ GOES P S pk sk tk nd cl wt has mth j) → post (nI s)) (h0 : (∀ j, j < S → ¬ GOES P S pk sk tk nd cl wt has mth j) → post (-1)) : w_X5_leastGoing (nI P) (nI S) cl hd nd pk sk tk wt many things post := by
  have hS16 := hN.1.2
  have go : ∀ u : Int32, ((u = 1 ∧ URG P S pk sk tk nd cl wt has mth) ∨ (u = 0 ∧ ¬ URG P S pk sk tk nd cl wt has mth)) → ∃ n : Nat, w_X5_leastGoing_L8 u (nI P) (nI S) cl hd nd pk sk tk wt many things post (fun _ => post (-1 : Int32)) n (0 : Int32) := by
    intro u hu
    refine pk_loop (fun n i (_ : Unit) => w_X5_leastGoing_L8 u (nI P) (nI S) cl hd nd pk sk tk wt many things post (fun _ => post (-1 : Int32)) n (nI i)) (fun i _ => ∀ j, j < i → ¬ GOES P S pk sk tk nd cl wt has mth j) S 0 () (by omega) (fun j hj => absurd hj (by omega)) ?_ ?_
    · intro n _ hg
      exact tt (nI_le (Nat.le_refl S) (by omega)) (h0 hg)
    · intro n i _ hi hg ih
      refine ff (nI_ge hi (by omega)) (goesWhere_spec hN hW (by omega) hu (fun d => z1 (h1 i hi d hg)) (fun d => z0 (nm ?_)))
      rw [nI_1]
      refine ih () (fun j hj => ?_)
      by_cases e : j = i
      · subst e; exact d
      · exact hg j (by omega)
  exact urgesNow_spec hN hW (fun d => go 1 (Or.inl ⟨rfl, d⟩)) (fun d => go 0 (Or.inr ⟨rfl, d⟩))
/-- the reference's search for it -/
theorem leastM_spec {P S : Nat} {v1 v2 g past first : Int32} {cl pk gf has nd ph ps pts pt sk tk mth wt : Nat → Int32} {post : Int32 → Int32 → Int32 → Int32 → (Nat → Int32) → (Nat → Int32) → (Nat → Int32) → (Nat → Int32) → (Nat → Int32) → Prop} {K : Int32 → Prop} (hP : P ≤ 16) (hS : S ≤ 16) (hcol : ∀ p, p < P → pk p = 0 ∨ pk p = 1) (hh : ∀ p, p < P → ∃ v : Nat, has p = nI v ∧ v ≤ 1000000000 ∧ (pk p = 1 → v ≤ 20)) {r : Nat} (hr : r ≤ S) (h1 : r < S → GOES P S pk sk tk nd cl wt has mth r) (h2 : ∀ j, j < r → ¬ GOES P S pk sk tk nd cl wt has mth j) (h : K (nI r)) : ∃ n : Nat, w_X10_run_L30 v1 v2 g past first (nI P) (nI S) cl pk gf has nd ph ps pts pt sk tk mth wt post K n (0 : Int32) := by
  refine pk_loop (fun n i (_ : Unit) => w_X10_run_L30 v1 v2 g past first (nI P) (nI S) cl pk gf has nd ph ps pts pt sk tk mth wt post K n (nI i)) (fun i _ => i ≤ r) r 0 () (by omega) (by omega) ?_ ?_
  · intro n _ hg
    by_cases e : r = S
    · exact tt (nI_le (by omega) (by omega)) h
    · exact ff (nI_ge (by omega) (by omega)) (goesM_spec hP hS (by omega) hcol hh (fun _ => y1 h) (fun q => absurd (h1 (by omega)) q))
  · intro n i _ hi hg ih
    refine ff (nI_ge (by omega) (by omega)) (goesM_spec hP hS (by omega) hcol hh (fun q => absurd q (h2 i hi)) (fun _ => y0 (nm ?_)))
    rw [nI_1]
    exact ih () (by omega)
theorem lt0_1 {a : Int32} (h : a < 0) : a < 1 := by
  have h1 := Int32.lt_iff_toInt_lt.mp h
  rw [Int32.lt_iff_toInt_lt]
  have e0 : (0 : Int32).toInt = 0 := by decide
  have e1 : (1 : Int32).toInt = 1 := by decide
  omega
theorem p_16 : St_16 Inw := by
  intro XI XA XL MI MA ML hI a1
  obtain ⟨P, S, hq, hN, hW, hPa, hH, hg, hF, hT, hb1, hb2, hs⟩ := id hI
  obtain ⟨q9, m0, q10, m1, k5, k27, k29, k24, k16, k4, k31, k10⟩ := id hq
  have hP16 : P ≤ 16 := hN.1.1
  have hS16 : S ≤ 16 := hN.1.2
  have hno : Inw (va_up (va_up (va_up XI 0 (XI 0)) 16 (XI 16)) 17 (XI 17)) (va_up (va_up XA 20 (XA 20)) 25 (XA 25)) (va_up (va_up XL 1 (XL 1)) 4 (XL 4)) (va_up (va_up (va_up MI 2 (MI 2)) 3 (MI 3)) 4 (MI 4)) (va_up (va_up (va_up (va_up (va_up MA 11 (MA 11)) 21 (MA 21)) 22 (MA 22)) 23 (MA 23)) 30 (MA 30)) ML := by simp only [up_same]; exact hI
  unfold ls_16 w_X9_run w_X10_run
  rw [q9, m0, q10, m1, k5, k27, k29, k16, k4, k31, k24, k10]
  by_cases c1 : a1 < 1
  · exact tt c1 (isIn_lo c1 (y0 ⟨rfl, hno⟩))
  refine ff c1 ?_
  by_cases c2 : ¬ a1 ≤ 1000
  · exact ff c2 (isIn_hi (nlt_le c2) (y0 ⟨rfl, hno⟩))
  have c2 := Decidable.not_not.mp c2
  refine tt c2 ?_
  obtain ⟨N, hN1, rfl⟩ : ∃ N : Nat, N ≤ 1000 ∧ a1 = nI N := nI_of2 (M := 1000) (by decide) (fun q => c1 (lt0_1 q)) c2
  have fin : ∀ (r : Nat) (y2 y3 y4 : Int32) (y5 : Nat → Int32) (y6 : Nat → Int64) (y7 : Nat → Int32) (y8 : Nat → Int64) (g2' past' first' : Int32) (h' ph' ps' pts' mth' : Nat → Int32), REL P S (XA 13) (XA 17) (XA 14) (XI 11) y2 y3 y4 y5 y6 y7 y8 g2' past' first' h' ph' ps' pts' mth' → Inw (va_up (va_up (va_up XI 0 y2) 16 y4) 17 y3) (va_up (va_up XA 20 y5) 25 y7) (va_up (va_up XL 1 y6) 4 y8) (va_up (va_up (va_up MI 2 first') 3 past') 4 g2') (va_up (va_up (va_up (va_up (va_up MA 11 h') 21 ph') 22 ps') 23 pts') 30 mth') ML := by
    intro r y2 y3 y4 y5 y6 y7 y8 g2' past' first' h' ph' ps' pts' mth' hr
    exact ⟨P, S, hq, hN, hr.2.1, hr.2.2, hH, ⟨hr.1, hg.2⟩, hF, hT, hb1, hb2, hs⟩
  refine pk_loop (σ := Int32 × Int32 × Int32 × (Nat → Int32) × (Nat → Int64) × (Nat → Int32) × (Nat → Int64)) (fun n i x => w_X9_run_L17 (nI N) (XI 11) (nI P) (nI S) (XA 9) (XA 10) (XA 11) (XA 12) (XA 13) (XA 14) (XA 15) (XA 16) (XA 17) (XA 18) (XA 19) _ _ n (nI i) x.1 x.2.1 x.2.2.1 x.2.2.2.1 x.2.2.2.2.1 x.2.2.2.2.2.1 x.2.2.2.2.2.2)
    (fun i x => (∃ g2 past first has ph ps pts mth, REL P S (XA 13) (XA 17) (XA 14) (XI 11) x.1 x.2.1 x.2.2.1 x.2.2.2.1 x.2.2.2.2.1 x.2.2.2.2.2.1 x.2.2.2.2.2.2 g2 past first has ph ps pts mth) ∧ ∀ n' post K, (∀ g2 past first has ph ps pts mth, REL P S (XA 13) (XA 17) (XA 14) (XI 11) x.1 x.2.1 x.2.2.1 x.2.2.2.1 x.2.2.2.2.1 x.2.2.2.2.2.1 x.2.2.2.2.2.2 g2 past first has ph ps pts mth → w_X10_run_L18 (nI N) (nI P) (nI S) (XA 9) (XA 13) (XA 10) (XA 12) (XA 14) (XA 16) (XA 17) (XA 19) post K n' (nI i) 1 g2 past first has ph ps pts mth) → ∃ n, w_X10_run_L18 (nI N) (nI P) (nI S) (XA 9) (XA 13) (XA 10) (XA 12) (XA 14) (XA 16) (XA 17) (XA 19) post K n 0 1 (MI 4) (MI 3) (MI 2) (MA 11) (MA 21) (MA 22) (MA 23) (MA 30))
    N 0 (XI 0, XI 17, XI 16, XA 20, XL 1, XA 25, XL 4) (by omega) ⟨⟨_, _, _, _, _, _, _, _, hg.1, hW, hPa⟩, fun n' post K hh => ⟨n', hh _ _ _ _ _ _ _ _ ⟨hg.1, hW, hPa⟩⟩⟩ ?_ ?_
  · intro n x hx
    refine tt (nI_le (Nat.le_refl N) (by omega)) ?_
    refine isIn_in c1 (le_nlt c2) (y1 (hx.2 1 _ _ (fun g2 past first has ph ps pts mth hr => ?_)))
    exact ff (by decide) (tt (nI_le (Nat.le_refl N) (by omega)) ⟨rfl, fin N _ _ _ _ _ _ _ _ _ _ _ _ _ _ _ hr⟩)
  · intro n i x hi hx ih
    obtain ⟨⟨g20, past0, first0, has0, ph0, ps0, pts0, mth0, hr0⟩, hx⟩ := hx
    have ge := nI_ge hi (show N < 2 ^ 31 by omega)
    refine ff ge ?_
    have hh0 := now_rng hP16 hr0.2.1
    -- what goes is the same for each of the reference's states
    have same : ∀ {g2 past first : Int32} {has ph ps pts mth : Nat → Int32}, REL P S (XA 13) (XA 17) (XA 14) (XI 11) x.1 x.2.1 x.2.2.1 x.2.2.2.1 x.2.2.2.2.1 x.2.2.2.2.2.1 x.2.2.2.2.2.2 g2 past first has ph ps pts mth → ∀ s, s < 16 → (MAY P (XA 13) (XA 17) (XA 12) (XA 9) (XA 19) has mth s ↔ MAY P (XA 13) (XA 17) (XA 12) (XA 9) (XA 19) has0 mth0 s) := by
      intro g2 past first has ph ps pts mth hr s hs
      have key : ∀ p, p < P → has p = has0 p ∧ (XA 13 p = 0 ∨ cntM has (XA 19) mth s p = cntM has0 (XA 19) mth0 s p) := fun p hp => by
        have hp16 : p < 16 := by omega
        have e : has p = has0 p := (hr.2.1 p hp16).1.symm.trans (hr0.2.1 p hp16).1
        refine ⟨e, ?_⟩
        rcases hN.2.1 p hp with c | c
        · exact Or.inl c
        · right
          obtain ⟨-, v, ev, bv, -, h5⟩ := hr.2.1 p hp16
          obtain ⟨u1, t, u2, u3, u4⟩ := h5 hp c
          obtain ⟨-, v', ev', bv', -, h5'⟩ := hr0.2.1 p hp16
          obtain ⟨u1', t', u2', u3', u4'⟩ := h5' hp c
          have ee : v = v' := nI_inj (by omega) (by omega) (ev.symm.trans (e.trans ev'))
          subst ee
          have et : t = t' := lN_inj (by have := pow40 u1 u3; omega) (by have := pow40 u1 u3'; omega) (u2.symm.trans u2')
          subst et
          show cM mth (XA 19 (16 * s + p)) p (has p).toNatClampNeg = cM mth0 (XA 19 (16 * s + p)) p (has0 p).toNatClampNeg
          rw [ev, ev', nI_cl (by omega), cW_cM v u4, cW_cM v u4']
      constructor
      · intro q p hp
        obtain ⟨k1, k2⟩ := key p hp
        obtain ⟨w1, w2, w3, w4⟩ := q p hp
        rw [k1] at w1 w2 w3
        refine ⟨w1, w2, w3, ?_⟩
        rcases k2 with k2 | k2
        · exact Or.inl k2
        · rw [k2] at w4; exact w4
      · intro q p hp
        obtain ⟨k1, k2⟩ := key p hp
        obtain ⟨w1, w2, w3, w4⟩ := q p hp
        rw [← k1] at w1 w2 w3
        refine ⟨w1, w2, w3, ?_⟩
        rcases k2 with k2 | k2
        · exact Or.inl k2
        · rw [← k2] at w4; exact w4
    have sameU : ∀ {g2 past first : Int32} {has ph ps pts mth : Nat → Int32}, REL P S (XA 13) (XA 17) (XA 14) (XI 11) x.1 x.2.1 x.2.2.1 x.2.2.2.1 x.2.2.2.2.1 x.2.2.2.2.2.1 x.2.2.2.2.2.2 g2 past first has ph ps pts mth → ∀ s, s < S → (GOES P S (XA 13) (XA 16) (XA 17) (XA 12) (XA 9) (XA 19) has mth s ↔ GOES P S (XA 13) (XA 16) (XA 17) (XA 12) (XA 9) (XA 19) has0 mth0 s) := by
      intro g2 past first has ph ps pts mth hr s hs
      have hu : URG P S (XA 13) (XA 16) (XA 17) (XA 12) (XA 9) (XA 19) has mth ↔ URG P S (XA 13) (XA 16) (XA 17) (XA 12) (XA 9) (XA 19) has0 mth0 :=
        ⟨fun ⟨s, a, b, c⟩ => ⟨s, a, b, (same hr s (by omega)).mp c⟩, fun ⟨s, a, b, c⟩ => ⟨s, a, b, (same hr s (by omega)).mpr c⟩⟩
      unfold GOES
      rw [same hr s (by omega), hu]
    have sameR : ∀ {g2 past first : Int32} {has ph ps pts mth : Nat → Int32}, REL P S (XA 13) (XA 17) (XA 14) (XI 11) x.1 x.2.1 x.2.2.1 x.2.2.2.1 x.2.2.2.2.1 x.2.2.2.2.2.1 x.2.2.2.2.2.2 g2 past first has ph ps pts mth → ∀ s, (∀ p, p < P → RM (XA 13) (XA 17) (XA 14) has s p) ↔ (∀ p, p < P → RM (XA 13) (XA 17) (XA 14) has0 s p) := by
      intro g2 past first has ph ps pts mth hr s
      have e : ∀ p, p < P → has p = has0 p := fun p hp => (hr.2.1 p (by omega)).1.symm.trans (hr0.2.1 p (by omega)).1
      unfold RM
      constructor
      · intro q p hp; have := q p hp; rw [e p hp] at this; exact this
      · intro q p hp; have := q p hp; rw [← e p hp] at this; exact this
    refine least_spec hN hr0.2.1 (fun s hs' d dl => ff (nI_pos (by omega)) ?_) (fun d => tt (by decide) ?_)
    · refine over_spec hP16 (by omega) (fun p hp => (hr0.2.1 p (by omega)).1) (fun r => z0 ?_) (fun r => z1 ?_)
      · refine carry_both hN hr0 hs' d.1 r (fun g' en' sz' m' t' st' pth' hEx hM => nm ?_)
        rw [nI_1]
        refine ih (g', en', sz', m', t', st', pth') ⟨?_, fun n' post K hK => hx (n' + 1) post K (fun g2 past first has ph ps pts mth hr => ?_)⟩
        · exact hEx
        · refine ff (by decide) (ff ge (leastM_spec (r := s) hP16 hS16 hN.2.1 (now_rng hP16 hr.2.1) (by omega) (fun _ => (sameU hr s hs').mpr d) (fun j hj q => dl j hj ((sameU hr j (by omega)).mp q)) ?_))
          refine ff (nI_ge hs' (by omega)) (full_spec hP16 (by omega) (fun _ => y0 (z1 ?_)) (fun q => absurd ((sameR hr s).mpr r) q))
          refine hM _ hr ((sameU hr s hs').mpr d).1 ((sameR hr s).mpr r) (fun g2' past' first' h' ph' ps' pts' mth' hr' => nm ?_)
          rw [nI_1]
          exact hK _ _ _ _ _ _ _ _ hr'
      · refine isIn_in c1 (le_nlt c2) (y1 (hx 2 _ _ (fun g2 past first has ph ps pts mth hr => ?_)))
        refine ff (by decide) (ff ge (leastM_spec (r := s) hP16 hS16 hN.2.1 (now_rng hP16 hr.2.1) (by omega) (fun _ => (sameU hr s hs').mpr d) (fun j hj q => dl j hj ((sameU hr j (by omega)).mp q)) ?_))
        refine ff (nI_ge hs' (by omega)) (full_spec hP16 (by omega) (fun q => absurd ((sameR hr s).mp q) r) (fun _ => y1 (z0 ?_)))
        exact tt rfl ⟨rfl, fin N _ _ _ _ _ _ _ _ _ _ _ _ _ _ _ hr⟩
    · refine isIn_in c1 (le_nlt c2) (y1 (hx 2 _ _ (fun g2 past first has ph ps pts mth hr => ?_)))
      refine ff (by decide) (ff ge (leastM_spec (r := S) hP16 hS16 hN.2.1 (now_rng hP16 hr.2.1) (by omega) (fun q => absurd q (by omega)) (fun j hj q => d j hj ((sameU hr j hj).mp q)) ?_))
      refine tt (nI_le (Nat.le_refl S) (by omega)) (z0 ?_)
      exact tt rfl ⟨rfl, fin N _ _ _ _ _ _ _ _ _ _ _ _ _ _ _ hr⟩
/-! ===== back ===== -/
theorem undo_loop {P s : Nat} {x1 x2 co : Int32} {steps : Nat → Int32} {pth things : Nat → Int64} {pt tk f : Nat → Int32} {post : Int32 → Int32 → Int32 → (Nat → Int32) → (Nat → Int64) → Prop} {K : Int32 → (Nat → Int32) → Prop} (hP : P ≤ 16) (hs : s < 16) (h : ∀ z g, (∀ p, g p = if p < P then f p - (pt (16 * s + p) - tk (16 * s + p)) else f p) → K z g) : ∃ n : Nat, w_X6_undo_L41 (nI s) x1 x2 co (nI P) steps pth pt tk things post K n 0 f := by
  refine pk_loop (fun n i (g : Nat → Int32) => w_X6_undo_L41 (nI s) x1 x2 co (nI P) steps pth pt tk things post K n (nI i) g) (fun i g => ∀ p, g p = if p < i then f p - (pt (16 * s + p) - tk (16 * s + p)) else f p) P 0 f (by omega) (fun p => by rw [if_neg (by omega)]) ?_ ?_
  · intro n g hg
    exact tt (nI_le (Nat.le_refl P) (by omega)) (h _ g hg)
  · intro n i g hi hg ih
    have hin : vp_in (nI i) 16 := vp_in_nI (by omega) (by omega)
    refine ff (nI_ge hi (by omega)) ⟨hin, changeX_spec hs (by omega) ⟨hin, nm ?_⟩⟩
    rw [nI_1, nI_cl (n := i) (by omega)]
    refine ih _ (fun p => ?_)
    by_cases e : p = i
    · subst e
      rw [pk_us, if_pos (by omega), hg p, if_neg (by omega)]
    · rw [pk_un e, hg p]
      by_cases d : p < i
      · rw [if_pos d, if_pos (by omega)]
      · rw [if_neg d, if_neg (by omega)]
theorem backH {a : Nat} {x y : Int32} {ph ps pts mth f : Nat → Int32} {post : Int32 → Int32 → (Nat → Int32) → (Nat → Int32) → Prop} {K : Int32 → (Nat → Int32) → Prop} (ha : a < 256) (h : ∀ z g, (∀ p, p < 16 → g p = ph (16 * a + p)) → K z g) : ∃ n : Nat, w_X10_back_L36 (nI a) x y ph ps pts mth post K n 0 f := by
  refine pk_loop (fun n i (g : Nat → Int32) => w_X10_back_L36 (nI a) x y ph ps pts mth post K n (nI i) g) (fun i g => ∀ p, p < i → g p = ph (16 * a + p)) 16 0 f (by omega) (fun p hp => absurd hp (by omega)) ?_ ?_
  · intro n g hg
    exact tt (by decide) (h _ g hg)
  · intro n i g hi hg ih
    refine ff (nI_ge (b := 16) hi (by omega)) ?_
    rw [ixA]
    refine ⟨vp_in_nI (by omega) (by omega), vp_in_nI hi (by omega), nm ?_⟩
    rw [nI_1, nI_cl (n := 16 * a + i) (by omega), nI_cl (n := i) (by omega)]
    refine ih _ (fun p hp => ?_)
    by_cases e : p = i
    · rw [e, pk_us]
    · rw [pk_un e]; exact hg p (by omega)
theorem backT {a : Nat} {x y : Int32} {ph ps pts has f : Nat → Int32} {post : Int32 → Int32 → (Nat → Int32) → (Nat → Int32) → Prop} {K : Int32 → (Nat → Int32) → Prop} (ha : a < 256) (h : ∀ z g, (∀ p, p < 320 → g p = pts (320 * a + p)) → K z g) : ∃ n : Nat, w_X10_back_L67 (nI a) x y has ph ps pts post K n 0 f := by
  refine pk_loop (fun n i (g : Nat → Int32) => w_X10_back_L67 (nI a) x y has ph ps pts post K n (nI i) g) (fun i g => ∀ p, p < i → g p = pts (320 * a + p)) 320 0 f (by omega) (fun p hp => absurd hp (by omega)) ?_ ?_
  · intro n g hg
    exact tt (by decide) (h _ g hg)
  · intro n i g hi hg ih
    refine ff (nI_ge (b := 320) hi (by omega)) ?_
    rw [ix320]
    refine ⟨vp_in_nI (by omega) (by omega), vp_in_nI hi (by omega), nm ?_⟩
    rw [nI_1, nI_cl (n := 320 * a + i) (by omega), nI_cl (n := i) (by omega)]
    refine ih _ (fun p hp => ?_)
    by_cases e : p = i
    · rw [e, pk_us]
    · rw [pk_un e]; exact hg p (by omega)
theorem i_back (a c : Int32) : a + c - c = a := by rw [Int32.sub_eq_add_neg, Int32.add_assoc, ← Int32.sub_eq_add_neg, Int32.sub_self, Int32.add_zero]
theorem p_17 : St_17 Inw := by
  intro XI XA XL MI MA ML hI
  obtain ⟨P, S, hq, hN, hW, hPa, hH, hg, hF, hT, hb1, hb2, hs⟩ := id hI
  obtain ⟨q9, m0, q10, m1, k5, k27, k29, k24, k16, k4, k31, k10⟩ := id hq
  have hP16 : P ≤ 16 := hN.1.1
  have hS16 : S ≤ 16 := hN.1.2
  have hno : Inw (va_up (va_up XI 16 (XI 16)) 17 (XI 17)) (va_up XA 20 (XA 20)) (va_up XL 1 (XL 1)) (va_up MI 3 (MI 3)) (va_up (va_up MA 11 (MA 11)) 30 (MA 30)) ML := by simp only [up_same]; exact hI
  obtain ⟨K, E, F, hK, hE, hF', e1, e2, e3, e4, hent⟩ := hPa
  unfold ls_17 w_X9_back w_X6_undo w_X10_back
  rw [e1, e2, e3] at hno
  rw [e1, e2, e3, e4, q9]
  by_cases hz : K = 0
  · subst hz
    exact nt rfl (nt rfl ⟨rfl, hno⟩)
  have nz : ¬ nI K = 0 := nI_ne0 (by omega) (by omega)
  have ex : nI E + (256 : Int32) - 1 = nI (E + 255) := by
    rw [show (256 : Int32) = nI 256 from rfl, nI_add]; exact nI_pred (E + 255)
  have ek : nI K - (1 : Int32) = nI (K - 1) := pk_sub (b := 1) (by omega)
  refine nf nz (nm (nm ?_))
  rw [ex, rem256 (by omega), ek]
  have hx : (E + 255) % 256 < 256 := Nat.mod_lt _ (by omega)
  refine ⟨vp_in_nI hx (by omega), nm ?_⟩
  rw [nI_cl (n := (E + 255) % 256) (by omega)]
  obtain ⟨s, s1, s2, s3, s4, s5⟩ := hent (K - 1) (by omega)
  have ea : (E + 256 - K + (K - 1)) % 256 = (E + 255) % 256 := by congr 1; omega
  rw [ea] at s2 s4
  rw [s2]
  have hp5 : ∀ p, p < P → MA 11 p = MA 21 (16 * ((F + (K - 1)) % 256) + p) + (XA 14 (16 * s + p) - XA 17 (16 * s + p)) := fun p hp => by
    have := s5 p hp
    rw [if_neg (by omega)] at this
    exact this
  have hf : (F + (K - 1)) % 256 < 256 := Nat.mod_lt _ (by omega)
  -- the entries that stay
  have stay : ∀ (t' : Nat → Int64) (h' : Nat → Int32), (XI 11 = 0 → t' = XL 1) → (∀ p, p < 16 → h' p = MA 21 (16 * ((F + (K - 1)) % 256) + p)) → cPast P S (XA 13) (XA 17) (XA 14) (XI 11) t' h' (nI (K - 1)) (nI ((E + 255) % 256)) (XA 25) (XL 4) (nI F) (nI (K - 1)) (MA 21) (MA 22) (MA 23) := by
    intro t' h' ht hh
    refine ⟨K - 1, (E + 255) % 256, F, by omega, hx, hF', rfl, rfl, rfl, rfl, fun k hk => ?_⟩
    obtain ⟨s', r1, r2, r3, r4, r5⟩ := hent k (by omega)
    have eb : ((E + 255) % 256 + 256 - (K - 1) + k) % 256 = (E + 256 - K + k) % 256 := by omega
    rw [eb]
    refine ⟨s', r1, r2, r3, cNow_congr r4 (fun _ _ => rfl) (fun p hp => ?_) (fun _ _ => rfl) (fun _ _ => rfl), fun p hp => ?_⟩
    · by_cases cz : XI 11 = 0
      · rw [if_pos cz, if_pos cz, ht cz]
      · rw [if_neg cz, if_neg cz]
    · rw [← r5 p hp, if_pos (show k + 1 < K by omega)]
      by_cases hl : k + 1 < K - 1
      · rw [if_pos hl]
      · rw [if_neg hl, hh p (by omega)]
        congr 2
        rw [show F + (K - 1) = F + k + 1 by omega]
  refine undo_loop hP16 (by omega) (fun z g hg' => ?_)
  -- the marking that comes back
  have now : ∀ (t' : Nat → Int64) (h' mth' : Nat → Int32), (∀ p, p < 16 → (if XI 11 = 0 then XL 1 p else XL 4 (16 * ((E + 255) % 256) + p)) = t' p) → (∀ p, p < 16 → h' p = MA 21 (16 * ((F + (K - 1)) % 256) + p)) → (∀ i, i < 320 → mth' i = MA 23 (320 * ((F + (K - 1)) % 256) + i)) → cNow P (XA 13) g t' h' mth' := by
    intro t' h' mth' h1 h2 h3
    refine cNow_congr s4 (fun p hp => ?_) (fun p hp => (h1 p hp).symm) (fun p hp => h2 p hp) (fun i hi => h3 i hi)
    rw [hg' p]
    by_cases hpP : p < P
    · rw [if_pos hpP, (hW p hp).1, hp5 p hpP, i_back]
    · rw [if_neg hpP]
      obtain ⟨w1, v, w2, -, w4, -⟩ := hW p hp
      obtain ⟨-, v', w2', -, w4', -⟩ := s4 p hp
      obtain ⟨z1, -⟩ := w4 (by omega)
      obtain ⟨z2, -⟩ := w4' (by omega)
      rw [w1, w2, z1, ← z2]; exact w2'.symm
  have mside : ∀ (t' : Nat → Int64), (XI 11 = 0 → t' = XL 1) → (∀ p, p < 16 → (if XI 11 = 0 then XL 1 p else XL 4 (16 * ((E + 255) % 256) + p)) = t' p) → (¬ nI K = 0 →
    ∀ x3 : Int32, x3 = nI (K - 1) →
    ∀ x4 : Int32, x4 = ((nI F + x3) - (nI F + x3) / (256 : Int32) * (256 : Int32)) →
    ∃ n : Nat, w_X10_back_L36 x4 x3 (nI F) (MA 21) (MA 22) (MA 23) (MA 30) (fun r6 y7 y8 y9 => nI s = r6 ∧ Inw (va_up (va_up XI 16 (nI (K - 1))) 17 (nI ((E + 255) % 256))) (va_up XA 20 g) (va_up XL 1 t') (va_up MI 3 y7) (va_up (va_up MA 11 y8) 30 y9) ML) (fun v9 s10 =>
        ∃ n : Nat, w_X10_back_L67 x4 x3 (nI F) s10 (MA 21) (MA 22) (MA 23) (fun r6 y7 y8 y9 => nI s = r6 ∧ Inw (va_up (va_up XI 16 (nI (K - 1))) 17 (nI ((E + 255) % 256))) (va_up XA 20 g) (va_up XL 1 t') (va_up MI 3 y7) (va_up (va_up MA 11 y8) 30 y9) ML) (fun v15 s16 =>
            vp_in x4 256 ∧
            (nI s = MA 22 x4.toNatClampNeg ∧ Inw (va_up (va_up XI 16 (nI (K - 1))) 17 (nI ((E + 255) % 256))) (va_up XA 20 g) (va_up XL 1 t') (va_up MI 3 x3) (va_up (va_up MA 11 s10) 30 s16) ML)) n (0 : Int32) (MA 30)) n (0 : Int32) (MA 11)) := by
    intro t' h1 h2 _
    refine nm (nm ?_)
    rw [nI_add, rem256 (by omega)]
    refine backH hf (fun z h' hh => backT hf (fun z' m' hm => ⟨vp_in_nI hf (by omega), ?_, ?_⟩))
    · rw [nI_cl (n := (F + (K - 1)) % 256) (by omega)]; exact s3.symm
    · have em : MI 2 = nI F := e4
      refine ⟨P, S, hq, hN, now t' h' m' h2 hh hm, ?_, hH, hg, hF, hT, hb1, hb2, hs⟩
      show cPast P S (XA 13) (XA 17) (XA 14) (XI 11) t' h' (nI (K - 1)) (nI ((E + 255) % 256)) (XA 25) (XL 4) (MI 2) (nI (K - 1)) (MA 21) (MA 22) (MA 23)
      rw [em]
      exact stay t' h' h1 hh
  by_cases cz : XI 11 ≤ 0
  · have cz' := (co_le hN).mp cz
    exact tt cz (nf nz (mside (XL 1) (fun _ => rfl) (fun p hp => if_pos cz') nz))
  · have cz' : ¬ XI 11 = 0 := fun q => cz ((co_le hN).mpr q)
    have e16 : nI ((E + 255) % 256) * (16 : Int32) = nI (16 * ((E + 255) % 256)) := by rw [show (16 : Int32) = nI 16 from rfl, pk_mul, Nat.mul_comm]
    have c16 : (16 : Int32).toNatClampNeg = 16 := by decide
    have c0 : (0 : Int32).toNatClampNeg = 0 := by decide
    refine ff cz ⟨⟨?_, by decide, by decide, ?_, by decide⟩, nf nz ?_⟩
    · rw [e16]; exact nI_pos (by omega)
    · rw [e16, nI_cl (by omega), c16]; omega
    · rw [e16, nI_cl (n := 16 * ((E + 255) % 256)) (by omega), c16, c0]
      refine mside _ (fun q => absurd q cz') (fun p hp => ?_) nz
      rw [if_neg cz', pk_cpy_in (by omega) (by omega)]
      rfl
