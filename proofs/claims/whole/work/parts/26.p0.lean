/-! ===== small rows ===== -/
theorem up_same {α : Type} (f : Nat → α) (k : Nat) : va_up f k (f k) = f := funext fun j => by unfold va_up; split <;> simp_all
theorem up_at {α : Type} (f : Nat → α) (k : Nat) (v : α) : va_up f k v k = v := if_pos rfl
theorem up_ne {α : Type} (f : Nat → α) {k j : Nat} (v : α) (h : j ≠ k) : va_up f k v j = f j := if_neg h
theorem nI_cl {n : Nat} (h : n < 2 ^ 31) : (nI n).toNatClampNeg = n := nI_clamp h
theorem ci_ne {c : Prop} [Decidable c] {A B : Prop} (f : c → A) (g : ¬ c → B) : (¬ (if c then (1 : Int32) else 0) = 0 → A) ∧ ((if c then (1 : Int32) else 0) = 0 → B) := by
  by_cases h : c
  · simp [h]; exact f h
  · simp [h]; exact g h
theorem isIn_in {a lo hi : Int32} {post : Int32 → Prop} (h1 : ¬ a < lo) (h2 : ¬ hi < a) (h : post 1) : w_X10_isIn a lo hi post := ⟨fun q => absurd q h1, fun _ => ⟨fun q => absurd q h2, fun _ => h⟩⟩
theorem isIn_lo {a lo hi : Int32} {post : Int32 → Prop} (h1 : a < lo) (h : post 0) : w_X10_isIn a lo hi post := ⟨fun _ => h, fun q => absurd h1 q⟩
theorem isIn_hi {a lo hi : Int32} {post : Int32 → Prop} (h2 : hi < a) (h : post 0) : w_X10_isIn a lo hi post := ⟨fun _ => h, fun _ => ⟨fun _ => h, fun q => absurd h2 q⟩⟩
theorem t1 {A : Prop} (h : A) : ((¬ (1 : Int32) = 0 → A) ∧ ((1 : Int32) = 0 → False)) := ⟨fun _ => h, fun q => absurd q (by decide)⟩
/-- an answer of 1 or 0, asked for -/
theorem y1 {A B : Prop} (h : A) : (¬ (1 : Int32) = 0 → A) ∧ ((1 : Int32) = 0 → B) := ⟨fun _ => h, fun q => absurd q (by decide)⟩
theorem y0 {A B : Prop} (h : B) : (¬ (0 : Int32) = 0 → A) ∧ ((0 : Int32) = 0 → B) := ⟨fun q => absurd rfl q, fun _ => h⟩
theorem z1 {A B : Prop} (h : A) : ((1 : Int32) = 0 → B) ∧ (¬ (1 : Int32) = 0 → A) := ⟨fun q => absurd q (by decide), fun _ => h⟩
theorem z0 {A B : Prop} (h : B) : ((0 : Int32) = 0 → B) ∧ (¬ (0 : Int32) = 0 → A) := ⟨fun _ => h, fun q => absurd rfl q⟩
theorem tt {c A B : Prop} (hc : c) (h : A) : (c → A) ∧ (¬ c → B) := ⟨fun _ => h, fun q => absurd hc q⟩
theorem ff {c A B : Prop} (hc : ¬ c) (h : B) : (c → A) ∧ (¬ c → B) := ⟨fun q => absurd q hc, fun _ => h⟩
theorem nt {c A B : Prop} (hc : c) (h : B) : (¬ c → A) ∧ (c → B) := ⟨fun q => absurd hc q, fun _ => h⟩
theorem nf {c A B : Prop} (hc : ¬ c) (h : A) : (¬ c → A) ∧ (c → B) := ⟨fun _ => h, fun q => absurd q hc⟩
theorem nm {α : Type} {e : α} {P : α → Prop} (h : P e) : ∀ x, x = e → P x := fun x q => q ▸ h
/-- the places' and steps' own tests -/
theorem hasPlace_no {pl a : Int32} {post : Int32 → Prop} (h : a < 0 ∨ pl ≤ a) (k : post 0) : w_X5_hasPlace pl a post := by
  by_cases h1 : a < 0
  · exact tt h1 k
  · exact ff h1 (tt (h.resolve_left h1) k)
theorem hasPlace_yes {pl a : Int32} {post : Int32 → Prop} (h1 : ¬ a < 0) (h2 : ¬ pl ≤ a) (k : post 1) : w_X5_hasPlace pl a post := ff h1 (ff h2 k)
theorem hasStep_no {pl a : Int32} {post : Int32 → Prop} (h : a < 0 ∨ pl ≤ a) (k : post 0) : w_X5_hasStep pl a post := by
  by_cases h1 : a < 0
  · exact tt h1 k
  · exact ff h1 (tt (h.resolve_left h1) k)
theorem hasStep_yes {pl a : Int32} {post : Int32 → Prop} (h1 : ¬ a < 0) (h2 : ¬ pl ≤ a) (k : post 1) : w_X5_hasStep pl a post := ff h1 (ff h2 k)
theorem isPlace_no {pl a : Int32} {post : Int32 → Prop} (h : a < 0 ∨ pl ≤ a) (k : post 0) : w_X10_isPlace pl a post := by
  by_cases h1 : a < 0
  · exact tt h1 k
  · exact ff h1 (tt (h.resolve_left h1) k)
theorem isPlace_yes {pl a : Int32} {post : Int32 → Prop} (h1 : ¬ a < 0) (h2 : ¬ pl ≤ a) (k : post 1) : w_X10_isPlace pl a post := ff h1 (ff h2 k)
theorem isStep_no {pl a : Int32} {post : Int32 → Prop} (h : a < 0 ∨ pl ≤ a) (k : post 0) : w_X10_isStep pl a post := by
  by_cases h1 : a < 0
  · exact tt h1 k
  · exact ff h1 (tt (h.resolve_left h1) k)
theorem isStep_yes {pl a : Int32} {post : Int32 → Prop} (h1 : ¬ a < 0) (h2 : ¬ pl ≤ a) (k : post 1) : w_X10_isStep pl a post := ff h1 (ff h2 k)
/-- an index in a range, or not: the three cases -/
theorem ix3 (x : Int32) (n : Nat) (hn : n < 2 ^ 31) : (x < 0 ∨ nI n ≤ x) ∨ ∃ j : Nat, j < n ∧ x = nI j ∧ ¬ x < 0 ∧ ¬ nI n ≤ x := by
  rcases pk_ix x hn with h | h | ⟨j, hj, rfl⟩
  · exact Or.inl (Or.inl h)
  · exact Or.inl (Or.inr h)
  · exact Or.inr ⟨j, hj, rfl, nI_pos (by omega), nI_ge hj hn⟩
