/-! ===== the reference's order of markings ===== -/
theorem i_tri (a b : Int32) : a < b ∨ a = b ∨ b < a := by
  rcases Int.lt_trichotomy a.toInt b.toInt with h | h | h
  · exact Or.inl (Int32.lt_iff_toInt_lt.mpr h)
  · exact Or.inr (Or.inl (Int32.toInt_inj.mp h))
  · exact Or.inr (Or.inr (Int32.lt_iff_toInt_lt.mpr h))
theorem i_irr {a : Int32} (h : a < a) : False := by have := Int32.lt_iff_toInt_lt.mp h; omega
theorem i_trans {a b c : Int32} (h : a < b) (k : b < c) : a < c := by
  have := Int32.lt_iff_toInt_lt.mp h
  have := Int32.lt_iff_toInt_lt.mp k
  exact Int32.lt_iff_toInt_lt.mpr (by omega)
theorem LL_tri {f g : Nat → Int32} : ∀ P, LL P f g ∨ (∀ p, p < P → f p = g p) ∨ LL P g f
  | 0 => Or.inr (Or.inl (fun p hp => absurd hp (by omega)))
  | P + 1 => by
    rcases LL_tri (f := f) (g := g) P with ⟨p, h1, h2, h3⟩ | h | ⟨p, h1, h2, h3⟩
    · exact Or.inl ⟨p, by omega, h2, h3⟩
    · rcases i_tri (f P) (g P) with c | c | c
      · exact Or.inl ⟨P, by omega, h, c⟩
      · exact Or.inr (Or.inl (fun p hp => by
          by_cases e : p = P
          · subst e; exact c
          · exact h p (by omega)))
      · exact Or.inr (Or.inr ⟨P, by omega, fun q hq => (h q hq).symm, c⟩)
    · exact Or.inr (Or.inr ⟨p, by omega, h2, h3⟩)
theorem LL_trans {P : Nat} {f g h : Nat → Int32} (a : LL P f g) (b : LL P g h) : LL P f h := by
  obtain ⟨p, p1, p2, p3⟩ := a
  obtain ⟨q, q1, q2, q3⟩ := b
  rcases Nat.lt_trichotomy p q with c | c | c
  · exact ⟨p, p1, fun r hr => (p2 r hr).trans (q2 r (by omega)), by rw [← q2 p c]; exact p3⟩
  · subst c
    exact ⟨p, p1, fun r hr => (p2 r hr).trans (q2 r hr), i_trans p3 q3⟩
  · exact ⟨q, q1, fun r hr => (p2 r (by omega)).trans (q2 r hr), by rw [p2 q c]; exact q3⟩
theorem LL_irr {P : Nat} {f g : Nat → Int32} (h : ∀ p, p < P → f p = g p) : ¬ LL P f g := fun ⟨p, p1, p2, p3⟩ => by
  rw [h p p1] at p3; exact i_irr p3
theorem LL_asym {P : Nat} {f g : Nat → Int32} (a : LL P f g) (b : LL P g f) : False := LL_irr (fun _ _ => rfl) (LL_trans a b)
theorem LL_congr {P : Nat} {f g f' g' : Nat → Int32} (h1 : ∀ p, p < P → f p = f' p) (h2 : ∀ p, p < P → g p = g' p) (a : LL P f g) : LL P f' g' := by
  obtain ⟨p, p1, p2, p3⟩ := a
  exact ⟨p, p1, fun q hq => by rw [← h1 q (by omega), ← h2 q (by omega)]; exact p2 q hq, by rw [← h1 p p1, ← h2 p p1]; exact p3⟩
theorem compared_spec {P i : Nat} {come field : Nat → Int32} {post : Int32 → Prop} (hP : P ≤ 16) (hi : i < 8000) (h1 : LL P (mR field i) come → post (-1)) (h2 : (∀ p, p < P → mR field i p = come p) → post 0) (h3 : LL P come (mR field i) → post 1) : w_X10_compared (nI P) come field (nI i) post := by
  refine pk_loop (fun n k (_ : Unit) => w_X10_compared_L2 (nI i) (nI P) come field post (fun _ => post 0) n (nI k)) (fun k _ => ∀ p, p < k → mR field i p = come p) P 0 () (by omega) (fun p hp => absurd hp (by omega)) ?_ ?_
  · intro n _ hg
    exact tt (nI_le (Nat.le_refl P) (by omega)) (h2 hg)
  · intro n k _ hk hg ih
    have b1 : vp_in (nI (16 * i + k)) 128000 := vp_in_nI (by omega) (by omega)
    have b2 : vp_in (nI k) 16 := vp_in_nI (by omega) (by omega)
    refine ff (nI_ge hk (by omega)) ?_
    rw [ixA]
    refine ⟨b1, b2, ?_⟩
    rw [nI_cl (n := 16 * i + k) (by omega), nI_cl (n := k) (by omega)]
    by_cases c : field (16 * i + k) = come k
    · refine tt c (nm ?_)
      rw [nI_1]
      refine ih () (fun p hp => ?_)
      by_cases e : p = k
      · subst e; exact c
      · exact hg p (by omega)
    · refine ff c ⟨b1, b2, ?_⟩
      by_cases d : come k ≤ field (16 * i + k)
      · refine tt d (h3 ⟨k, hk, fun q hq => (hg q hq).symm, ?_⟩)
        rcases i_tri (come k) (field (16 * i + k)) with e | e | e
        · exact e
        · exact absurd e.symm c
        · exact absurd d (Int32.not_le.mpr e)
      · exact ff d (h1 ⟨k, hk, hg, Int32.not_le.mp d⟩)
theorem sought_spec {P n : Nat} {come field order : Nat → Int32} {o : Nat → Nat} {post : Int32 → Prop} (hP : P ≤ 16) (hn : n ≤ 8000) (o1 : ∀ k, k < n → o k < n ∧ order k = nI (o k)) (o3 : ∀ k l, k < l → l < n → LL P (mR field (o k)) (mR field (o l)))
    (h : ∀ k, k ≤ n → (∀ j, j < k → LL P (mR field (o j)) come) → (∀ j, k ≤ j → j < n → ¬ LL P (mR field (o j)) come) → post (nI k)) : w_X10_sought (nI n) (nI P) come field order post := by
  have key : ∀ d lo hi, hi - lo ≤ d → lo ≤ hi → hi ≤ n → (∀ j, j < lo → LL P (mR field (o j)) come) → (∀ j, hi ≤ j → j < n → ¬ LL P (mR field (o j)) come) → ∃ f : Nat, w_X10_sought_L7 (nI n) (nI P) come field order post (fun v9 _ => post v9) f (nI lo) (nI hi) := by
    intro d
    induction d with
    | zero =>
      intro lo hi hd hle hn' a b
      have e : lo = hi := by omega
      subst e
      exact ⟨1, tt (nI_le (Nat.le_refl _) (by omega)) (h lo hn' a b)⟩
    | succ d ih =>
      intro lo hi hd hle hn' a b
      by_cases e : lo = hi
      · subst e
        exact ⟨1, tt (nI_le (Nat.le_refl _) (by omega)) (h lo hn' a b)⟩
      · have hm : (nI lo + nI hi) / (2 : Int32) = nI ((lo + hi) / 2) := by
          rw [nI_add]; exact pk_div (d := 2) (by omega) (by omega) (by omega)
        have hmn : (lo + hi) / 2 < n := by omega
        obtain ⟨om, oe⟩ := o1 _ hmn
        by_cases c : LL P (mR field (o ((lo + hi) / 2))) come
        · obtain ⟨f, hf⟩ := ih ((lo + hi) / 2 + 1) hi (by omega) (by omega) hn' (fun j hj => by
            by_cases ej : j = (lo + hi) / 2
            · subst ej; exact c
            · exact LL_trans (o3 j _ (by omega) hmn) c) b
          refine ⟨f + 1, ff (nI_ge (by omega) (by omega)) (nm ?_)⟩
          rw [hm]
          refine ⟨vp_in_nI (by omega) (by omega), ?_⟩
          rw [nI_cl (n := (lo + hi) / 2) (by omega), oe]
          refine compared_spec hP (by omega) (fun _ => ff (by decide) (nm ?_)) (fun q => absurd c (LL_irr q)) (fun q => (LL_asym c q).elim)
          rw [nI_1]; exact hf
        · obtain ⟨f, hf⟩ := ih lo ((lo + hi) / 2) (by omega) (by omega) (by omega) a (fun j hj hjn q => by
            by_cases ej : j = (lo + hi) / 2
            · subst ej; exact c q
            · exact c (LL_trans (o3 _ j (by omega) hjn) q))
          refine ⟨f + 1, ff (nI_ge (by omega) (by omega)) (nm ?_)⟩
          rw [hm]
          refine ⟨vp_in_nI (by omega) (by omega), ?_⟩
          rw [nI_cl (n := (lo + hi) / 2) (by omega), oe]
          exact compared_spec hP (by omega) (fun q => absurd q c) (fun _ => tt (by decide) hf) (fun _ => tt (by decide) hf)
  exact key n 0 n (by omega) (by omega) (by omega) (fun j hj => absurd hj (by omega)) (fun j h1 h2 => absurd h1 (by omega))
theorem numberOf_spec {P n : Nat} {come field order : Nat → Int32} {post : Int32 → Prop} (hP : P ≤ 16) (hn : n ≤ 8000) (hO : oR P n field order) (h1 : ∀ i, i < n → (∀ p, p < P → mR field i p = come p) → post (nI i)) (h0 : (∀ i, i < n → ¬ ∀ p, p < P → mR field i p = come p) → post NONE) : w_X10_numberOf (nI n) (nI P) come field order post := by
  obtain ⟨o, o1, o2, o3⟩ := hO
  refine sought_spec hP hn o1 o3 (fun k hk a b => ?_)
  have none : (∀ j, j < n → ¬ ∀ p, p < P → mR field (o j) p = come p) → post NONE := fun q => h0 (fun i hi => by
    obtain ⟨j, hj, e⟩ := o2 i hi
    rw [← e]; exact q j hj)
  by_cases e : k = n
  · refine tt (nI_le (by omega) (by omega)) (none (fun j hj q => ?_))
    exact LL_irr q (a j (by omega))
  · obtain ⟨om, oe⟩ := o1 k (by omega)
    refine ff (nI_ge (by omega) (by omega)) ⟨vp_in_nI (by omega) (by omega), ?_⟩
    rw [nI_cl (n := k) (by omega), oe]
    have rest : (¬ ∀ p, p < P → mR field (o k) p = come p) → post NONE := fun q => none (fun j hj r => by
      rcases Nat.lt_trichotomy j k with c | c | c
      · exact LL_irr r (a j c)
      · subst c; exact q r
      · exact b k (Nat.le_refl k) (by omega) (LL_congr (fun _ _ => rfl) r (o3 k j c hj)))
    refine compared_spec hP (by omega) (fun q => absurd q (b k (Nat.le_refl k) (by omega))) (fun q => ?_) (fun q => ?_)
    · exact y0 ⟨vp_in_nI (by omega) (by omega), h1 _ om q⟩
    · exact y1 (rest (fun r => LL_irr (fun p hp => (r p hp).symm) q))
theorem shift_spec {n k : Nat} {a1 a2 pl : Int32} {by_ come field former order : Nat → Int32} {post : Int32 → (Nat → Int32) → (Nat → Int32) → (Nat → Int32) → (Nat → Int32) → Prop} {K : Int32 → (Nat → Int32) → Prop} (hn : n < 8000) (hk : k ≤ n) (h : ∀ g, (∀ j, g j = if k < j ∧ j ≤ n then order (j - 1) else order j) → K (nI k) g) : ∃ f : Nat, w_X10_addMarking_L11 a1 a2 (nI k) (nI n) pl by_ come field former post K f (nI n) order := by
  have key : ∀ d m, m = k + d → m ≤ n → ∀ g : Nat → Int32, (∀ j, g j = if m < j ∧ j ≤ n then order (j - 1) else order j) → ∃ f : Nat, w_X10_addMarking_L11 a1 a2 (nI k) (nI n) pl by_ come field former post K f (nI m) g := by
    intro d
    induction d with
    | zero =>
      intro m hm hmn g hg
      have e : m = k := by omega
      subst e
      exact ⟨1, tt (nI_le (Nat.le_refl _) (by omega)) (h g hg)⟩
    | succ d ih =>
      intro m hm hmn g hg
      have e1 : nI m - (1 : Int32) = nI (m - 1) := pk_sub (b := 1) (by omega)
      obtain ⟨f, hf⟩ := ih (m - 1) (by omega) (by omega) (upd g m (g (m - 1))) (fun j => by
        by_cases e : j = m
        · subst e
          rw [pk_us, hg, if_neg (by omega), if_pos (by omega)]
        · rw [pk_un e, hg]
          by_cases c : m < j ∧ j ≤ n
          · rw [if_pos c, if_pos (by omega)]
          · rw [if_neg c, if_neg (by omega)])
      refine ⟨f + 1, ff (nI_ge (by omega) (by omega)) ?_⟩
      rw [e1]
      refine ⟨vp_in_nI (by omega) (by omega), vp_in_nI (by omega) (by omega), nm ?_⟩
      rw [nI_cl (n := m) (by omega), nI_cl (n := m - 1) (by omega), sb_m1 (by omega)]
      exact hf
  exact key (n - k) n (by omega) (Nat.le_refl n) order (fun j => by rw [if_neg (by omega)])
theorem fieldIn_spec {P n : Nat} {a1 a2 : Int32} {by_ come field former order : Nat → Int32} {post : Int32 → (Nat → Int32) → (Nat → Int32) → (Nat → Int32) → (Nat → Int32) → Prop} {K : Int32 → (Nat → Int32) → Prop} (hP : P ≤ 16) (hn : n < 8000) (h : ∀ z g, (∀ p, p < P → g (16 * n + p) = come p) → (∀ q, q < 16 * n → g q = field q) → K z g) : ∃ f : Nat, w_X10_addMarking_L52 a1 a2 (nI n) (nI P) by_ come former order post K f 0 field := by
  refine pk_loop (fun f i (g : Nat → Int32) => w_X10_addMarking_L52 a1 a2 (nI n) (nI P) by_ come former order post K f (nI i) g) (fun i g => (∀ p, p < i → g (16 * n + p) = come p) ∧ ∀ q, q < 16 * n → g q = field q) P 0 field (by omega) ⟨fun p hp => absurd hp (by omega), fun _ _ => rfl⟩ ?_ ?_
  · intro f g hg
    exact tt (nI_le (Nat.le_refl P) (by omega)) (h _ g hg.1 hg.2)
  · intro f i g hi hg ih
    refine ff (nI_ge hi (by omega)) ⟨vp_in_nI (by omega) (by omega), ?_⟩
    rw [ixA]
    refine ⟨vp_in_nI (by omega) (by omega), nm ?_⟩
    rw [nI_1, nI_cl (n := i) (by omega), nI_cl (n := 16 * n + i) (by omega)]
    refine ih _ ⟨fun p hp => ?_, fun q hq => ?_⟩
    · by_cases e : p = i
      · rw [e, pk_us]
      · rw [pk_un (by omega)]; exact hg.1 p (by omega)
    · rw [pk_un (by omega)]; exact hg.2 q hq
theorem addM_spec {P n : Nat} {a1 a2 : Int32} {by_ come field former order : Nat → Int32} {post : Int32 → (Nat → Int32) → (Nat → Int32) → (Nat → Int32) → (Nat → Int32) → Prop} (hP : P ≤ 16) (hn : n < 8000) (hO : oR P n field order) (hno : ∀ i, i < n → ¬ ∀ p, p < P → mR field i p = come p)
    (h : ∀ field' order', (∀ p, p < P → field' (16 * n + p) = come p) → (∀ q, q < 16 * n → field' q = field q) → oR P (n + 1) field' order' → post (nI (n + 1)) (upd by_ n a2) field' (upd former n a1) order') : w_X10_addMarking (nI n) (nI P) by_ come field former order a1 a2 post := by
  obtain ⟨o, o1, o2, o3⟩ := hO
  refine sought_spec hP (by omega) o1 o3 (fun k hk a b => shift_spec hn hk (fun g hg => ⟨vp_in_nI (by omega) (by omega), fieldIn_spec hP hn (fun z field' f1 f2 => ⟨vp_in_nI hn (by omega), vp_in_nI hn (by omega), nm ?_⟩)⟩))
  rw [nI_1, nI_cl (n := n) (by omega), nI_cl (n := k) (by omega)]
  have eR : ∀ i, i < n → ∀ p, p < P → mR field' i p = mR field i p := fun i hi p hp => f2 _ (by omega)
  refine h field' _ f1 f2 ⟨fun j => if j < k then o j else if j = k then n else o (j - 1), fun j hj => ?_, fun i hi => ?_, fun j l hjl hl => ?_⟩
  · show (if j < k then o j else if j = k then n else o (j - 1)) < n + 1 ∧ upd g k (nI n) j = nI (if j < k then o j else if j = k then n else o (j - 1))
    by_cases c1 : j < k
    · rw [if_pos c1, pk_un (by omega), hg, if_neg (by omega)]
      have := o1 j (by omega)
      exact ⟨by omega, this.2⟩
    · rw [if_neg c1]
      by_cases c2 : j = k
      · rw [if_pos c2, c2, pk_us]; exact ⟨by omega, rfl⟩
      · rw [if_neg c2, pk_un c2, hg, if_pos (by omega)]
        have := o1 (j - 1) (by omega)
        exact ⟨by omega, this.2⟩
  · by_cases e : i = n
    · exact ⟨k, by omega, by show (if k < k then o k else if k = k then n else o (k - 1)) = i; rw [if_neg (by omega), if_pos rfl, e]⟩
    · obtain ⟨j, hj, ej⟩ := o2 i (by omega)
      by_cases c : j < k
      · exact ⟨j, by omega, by show (if j < k then o j else if j = k then n else o (j - 1)) = i; rw [if_pos c]; exact ej⟩
      · exact ⟨j + 1, by omega, by show (if j + 1 < k then o (j + 1) else if j + 1 = k then n else o (j + 1 - 1)) = i; rw [if_neg (by omega), if_neg (by omega)]; exact ej⟩
  · have new : ∀ p, p < P → mR field' n p = come p := f1
    have lo : ∀ x, x < k → LL P (mR field' (o x)) (mR field' n) := fun x hx => LL_congr (fun p hp => (eR _ (o1 x (by omega)).1 p hp).symm) (fun p hp => (new p hp).symm) (a x hx)
    have hi : ∀ x, k ≤ x → x < n → LL P (mR field' n) (mR field' (o x)) := fun x hx hxn => by
      have hb := b x hx hxn
      have hm := (o1 x hxn).1
      rcases LL_tri (f := mR field (o x)) (g := come) P with c | c | c
      · exact absurd c hb
      · exact absurd c (hno _ hm)
      · exact LL_congr (fun p hp => (new p hp).symm) (fun p hp => (eR _ hm p hp).symm) c
    have mid : ∀ x y, x < y → y < n → LL P (mR field' (o x)) (mR field' (o y)) := fun x y hxy hy => LL_congr (fun p hp => (eR _ (o1 x (by omega)).1 p hp).symm) (fun p hp => (eR _ (o1 y hy).1 p hp).symm) (o3 x y hxy hy)
    show LL P (mR field' (if j < k then o j else if j = k then n else o (j - 1))) (mR field' (if l < k then o l else if l = k then n else o (l - 1)))
    by_cases c1 : j < k
    · rw [if_pos c1]
      by_cases d1 : l < k
      · rw [if_pos d1]; exact mid j l hjl (by omega)
      · rw [if_neg d1]
        by_cases d2 : l = k
        · rw [if_pos d2]; exact lo j c1
        · rw [if_neg d2]; exact mid j (l - 1) (by omega) (by omega)
    · rw [if_neg c1, if_neg (show ¬ l < k by omega), if_neg (show ¬ l = k by omega)]
      by_cases c2 : j = k
      · rw [if_pos c2]; exact hi (l - 1) (by omega) (by omega)
      · rw [if_neg c2]; exact mid (j - 1) (l - 1) (by omega) (by omega)
theorem oR_0 {P : Nat} {field order : Nat → Int32} : oR P 0 field order := ⟨fun _ => 0, fun k hk => absurd hk (by omega), fun i hi => absurd hi (by omega), fun k l _ hl => absurd hl (by omega)⟩
